/**
 * A writing desk with a drawer for each of six moods. What each call answers is told by the document (DOC.md).
 * A change is made, and refused, by the desk behind the face, since the orders of a text make the same changes.
 */
public final class MoodDrawers {

  public static final int NO_SUCH = -1, BAD_VALUE = -2, BAD_TEXT = -3, TOO_MANY = -4, NOT_POSSIBLE = -5, NONE = -6;
  public static final int POST = 0, COOL = 1, COOLING = 2;

  private static final int MOODS = 6;
  private static final int LETTERS = 30;
  private static final int DRAWER_ROOM = 8;
  private static final int HIGHEST_HEAT = 99;
  private static final int HIGHEST_REST = 30;
  private static final int DAY_HOURS = 24;
  private static final int LAST_DAY = 999;
  private static final int LONGEST_PASS = 240;
  private static final int GOES_WITHIN = 1200;
  private static final int BEST_POST_DAYS = 20;
  private static final int PAD_ROOM = 80;
  private static final int HISTORY = 6;
  private static final int SLOTS = 2;
  private static final int IN_DRAWER = 0, SENT = 1, BURNT = 2;
  // No call looks as far ahead as this day, and its hours still fit an int.
  private static final int NEVER = 1000000;
  private static final int[] HIGHEST_SETTING = {23, 99, 20};

  private final Desk desk = new Desk();
  private final Regrets regrets = new Regrets();
  private final Pad pad = new Pad();
  private final History history = new History();
  private final Desk[] slots = new Desk[SLOTS];

  public MoodDrawers() {
  }

  // ---- changes

  public int set(int setting, int value) {
    history.prepare(desk);
    return recorded(desk.changeSetting(setting, value));
  }

  public int write(int mood, int heat, int answers) {
    history.prepare(desk);
    return recorded(desk.writeLetter(mood, heat, answers));
  }

  public int turn(int mood) {
    history.prepare(desk);
    return recorded(desk.turnKey(mood));
  }

  public int rest(int mood, int days) {
    history.prepare(desk);
    return recorded(desk.changeRest(mood, days));
  }

  public int hours(int mood, int unlocks, int locks) {
    history.prepare(desk);
    return recorded(desk.changeHours(mood, unlocks, locks));
  }

  public int burn(int letter) {
    history.prepare(desk);
    return recorded(desk.burnLetter(letter));
  }

  public int pass(int hours) {
    history.prepare(desk);
    return recorded(desk.passHours(hours));
  }

  // The state before a change must be taken ahead of it, but counts only if the change returned no error.
  private int recorded(int answer) {
    if (answer >= 0) {
      history.keepPrepared();
    }
    return answer;
  }

  // ---- what there is

  public int ofLetter(int letter, int what) {
    Letters letters = desk.letters;
    if (!letters.isLetter(letter)) {
      return NO_SUCH;
    }
    switch (what) {
      case 0: return letters.mood[letter];
      case 1: return letters.heat[letter];
      case 2: return desk.heatNow(letter);
      case 3: return letters.writtenOn[letter];
      case 4: return letters.how[letter];
      case 5: return letters.sentOn[letter];
      case 6: return letters.answered[letter];
      case 7: return regrets.ofSent(desk, letter);
      case 8: return letters.answersTo(letter);
      case 9: return letters.depthOf(letter);
      default: return BAD_VALUE;
    }
  }

  public int ofDrawer(int mood, int what) {
    if (!isMood(mood)) {
      return NO_SUCH;
    }
    Drawers drawers = desk.drawers;
    switch (what) {
      case 0: return desk.letters.ofMood(mood, IN_DRAWER);
      case 1: return drawers.locked[mood];
      case 2: return drawers.restDays[mood];
      case 3: return drawers.unlockHour[mood];
      case 4: return drawers.lockHour[mood];
      case 5: return desk.heatInDrawer(mood);
      case 6: return desk.letters.ofMood(mood, SENT);
      case 7: return desk.letters.ofMood(mood, BURNT);
      default: return BAD_VALUE;
    }
  }

  public long letters(int what) {
    switch (what) {
      case 0: return desk.letters.setOf(IN_DRAWER);
      case 1: return desk.letters.setOf(SENT);
      case 2: return desk.letters.setOf(BURNT);
      case 3: return desk.setThatWouldGo();
      default: return BAD_VALUE;
    }
  }

  public int count(int what) {
    switch (what) {
      case 0: return desk.today();
      case 1: return desk.hourOfDay();
      case 2: return desk.letters.written;
      case 3: return Long.bitCount(desk.letters.setOf(IN_DRAWER));
      case 4: return Long.bitCount(desk.letters.setOf(SENT));
      case 5: return Long.bitCount(desk.letters.setOf(BURNT));
      case 6: return desk.drawers.howManyLocked();
      case 7: return desk.settings[POST];
      case 8: return desk.settings[COOL];
      case 9: return desk.settings[COOLING];
      case 10: return pad.length;
      case 11: return history.kept;
      default: return BAD_VALUE;
    }
  }

  public long meanHeat() {
    int sent = Long.bitCount(desk.letters.setOf(SENT));
    if (sent == 0) {
      return 0L;
    }
    return bitsOf((double) desk.letters.heatOfSent() / (double) sent, 1023, 52);
  }

  public int share() {
    int all = desk.letters.written;
    if (all == 0) {
      return NONE;
    }
    int sent = Long.bitCount(desk.letters.setOf(SENT));
    float share = (float) sent / (float) all;
    return (int) bitsOf((double) share, 127, 23);
  }

  // ---- what if

  public int goesIn(int letter) {
    Letters letters = desk.letters;
    if (!letters.isLetter(letter)) {
      return NO_SUCH;
    }
    if (letters.how[letter] == BURNT) {
      return NOT_POSSIBLE;
    }
    if (letters.how[letter] == SENT) {
      return 0;
    }
    return desk.hoursTillSent(letter, desk.settings[POST], GOES_WITHIN);
  }

  public int bestPost(int days, int what) {
    if (days < 1 || days > BEST_POST_DAYS || what < 0 || what > 1) {
      return BAD_VALUE;
    }
    int best = 0;
    int most = 0;
    for (int post = 0; post < DAY_HOURS; post++) {
      int sent = desk.sentWithin(post, days * DAY_HOURS);
      if (sent > most) {
        best = post;
        most = sent;
      }
    }
    return what == 0 ? best : most;
  }

  public int mostRegretted() {
    return regrets.greatest(desk);
  }

  public int ifSent(int regrets, int letter) {
    Letters letters = desk.letters;
    if (!letters.isLetter(regrets) || !letters.isLetter(letter)) {
      return NO_SUCH;
    }
    if (letters.how[regrets] != SENT || letters.how[letter] != IN_DRAWER) {
      return NOT_POSSIBLE;
    }
    return this.regrets.withSent(desk, regrets, letter);
  }

  // ---- texts

  public int put(long characters) {
    int more = charactersIn(characters);
    if (more == 0) {
      return BAD_VALUE;
    }
    if (pad.length + more > PAD_ROOM) {
      return TOO_MANY;
    }
    for (int behind = more - 1; behind >= 0; behind--) {
      pad.append((char) (characters >>> 8 * behind & 0xFF));
    }
    return pad.length;
  }

  public int wipe() {
    int length = pad.length;
    pad.length = 0;
    return length;
  }

  public int fault() {
    return pad.faultIndex();
  }

  public int carryOut() {
    if (pad.faultIndex() != NONE) {
      return BAD_TEXT;
    }
    history.prepare(desk);
    int done = carryOutOrders();
    pad.length = 0;
    return recorded(done);
  }

  // ---- undo, saving

  public int undo() {
    return history.takeBack(desk) ? history.kept : NOT_POSSIBLE;
  }

  public int save(int slot) {
    if (slot < 0 || slot >= SLOTS) {
      return BAD_VALUE;
    }
    Desk saved = slots[slot];
    if (saved == null) {
      saved = new Desk();
      slots[slot] = saved;
    }
    saved.copyFrom(desk);
    return desk.letters.written;
  }

  public int restore(int slot) {
    if (slot < 0 || slot >= SLOTS) {
      return BAD_VALUE;
    }
    Desk saved = slots[slot];
    if (saved == null) {
      return NOT_POSSIBLE;
    }
    history.prepare(desk);
    desk.copyFrom(saved);
    return recorded(desk.letters.written);
  }

  // ---- helpers

  private int carryOutOrders() {
    pad.at = 0;
    for (int done = 0; done < PAD_ROOM; done++) {
      if (!pad.readOrder() || carryOutOrder() < 0) {
        return done;
      }
      if (!pad.take(';')) {
        return done + 1;
      }
    }
    return PAD_ROOM;
  }

  private int carryOutOrder() {
    switch (pad.kind) {
      case '+': return desk.writeLetter(pad.mood, pad.first, pad.second);
      case 'k': return desk.turnKey(pad.mood);
      case 't': return desk.passHours(pad.first);
      case 'b': return desk.burnLetter(pad.first);
      default: return desk.changeHours(pad.mood, pad.first, pad.second);
    }
  }

  private static boolean isMood(int mood) {
    return mood >= 0 && mood < MOODS;
  }

  private static boolean isHour(int hour) {
    return hour >= 0 && hour < DAY_HOURS;
  }

  private static void copy(int[] from, int[] to) {
    System.arraycopy(from, 0, to, 0, Math.min(from.length, to.length));
  }

  // 0 if the number does not tell characters: no character has the code 0, so eight bits of it end the number.
  private static int charactersIn(long characters) {
    int found = 0;
    long left = characters;
    while (left != 0 && found < 8) {
      long code = left & 0xFF;
      if (code < 33 || code > 126) {
        return 0;
      }
      found++;
      left = left >>> 8;
    }
    return found;
  }

  // The library's own ways to a number's bits are not at hand here. Halving and doubling lose nothing,
  // so that the bits are those of the very value; it is never negative, and never near the smallest ones.
  private static long bitsOf(double value, int bias, int fractionBits) {
    if (value <= 0.0) {
      return 0L;
    }
    int exponent = 0;
    double scaled = value;
    while (scaled >= 2.0 && exponent < bias) {
      scaled = scaled / 2.0;
      exponent++;
    }
    while (scaled < 1.0 && exponent > 1 - bias) {
      scaled = scaled * 2.0;
      exponent--;
    }
    long fraction = (long) ((scaled - 1.0) * (double) (1L << fractionBits));
    return ((long) (exponent + bias) << fractionBits) + fraction;
  }

  /** The drawers' rests and keys. */
  private static final class Drawers {
    final int[] restDays = {2, 2, 2, 2, 2, 2};
    final int[] locked = new int[MOODS];
    final int[] unlockHour = {NONE, NONE, NONE, NONE, NONE, NONE};
    final int[] lockHour = {NONE, NONE, NONE, NONE, NONE, NONE};

    void copyFrom(Drawers other) {
      copy(other.restDays, restDays);
      copy(other.locked, locked);
      copy(other.unlockHour, unlockHour);
      copy(other.lockHour, lockHour);
    }

    int howManyLocked() {
      int found = 0;
      for (int mood = 0; mood < MOODS; mood++) {
        found += locked[mood];
      }
      return found;
    }

    void turnKeysBy(int hourOfDay) {
      for (int mood = 0; mood < MOODS; mood++) {
        if (unlockHour[mood] == hourOfDay) {
          locked[mood] = 0;
        }
        if (lockHour[mood] == hourOfDay) {
          locked[mood] = 1;
        }
      }
    }

    // As the post finds it in a later hour, when the hours alone have turned the key since now.
    boolean isLockedAt(int mood, int now, int later) {
      if (unlockHour[mood] == NONE) {
        return locked[mood] == 1;
      }
      int sinceUnlocked = Math.floorMod(later - unlockHour[mood], DAY_HOURS);
      int sinceLocked = Math.floorMod(later - lockHour[mood], DAY_HOURS);
      if (Math.min(sinceUnlocked, sinceLocked) > later - now) {
        return locked[mood] == 1;
      }
      return sinceLocked < sinceUnlocked;
    }
  }

  /** The letters, a column for each thing that is known of them. */
  private static final class Letters {
    int written;
    final int[] mood = new int[LETTERS];
    final int[] heat = new int[LETTERS];
    final int[] writtenOn = new int[LETTERS];
    final int[] answered = new int[LETTERS];
    final int[] how = new int[LETTERS];
    final int[] sentOn = new int[LETTERS];
    final int[] sentHeat = new int[LETTERS];

    void copyFrom(Letters other) {
      written = other.written;
      copy(other.mood, mood);
      copy(other.heat, heat);
      copy(other.writtenOn, writtenOn);
      copy(other.answered, answered);
      copy(other.how, how);
      copy(other.sentOn, sentOn);
      copy(other.sentHeat, sentHeat);
    }

    boolean isLetter(int letter) {
      return letter >= 0 && letter < written && letter < LETTERS;
    }

    boolean lies(int letter, int drawer) {
      return mood[letter] == drawer && how[letter] == IN_DRAWER;
    }

    int ofMood(int wanted, int wantedHow) {
      int found = 0;
      for (int letter = 0; letter < written; letter++) {
        if (mood[letter] == wanted && how[letter] == wantedHow) {
          found++;
        }
      }
      return found;
    }

    long setOf(int wantedHow) {
      long found = 0L;
      for (int letter = 0; letter < written; letter++) {
        if (how[letter] == wantedHow) {
          found |= 1L << letter;
        }
      }
      return found;
    }

    int heatOfSent() {
      int together = 0;
      for (int letter = 0; letter < written; letter++) {
        if (how[letter] == SENT) {
          together += sentHeat[letter];
        }
      }
      return together;
    }

    int answersTo(int letter) {
      int found = 0;
      for (int other = 0; other < written; other++) {
        if (answered[other] == letter) {
          found++;
        }
      }
      return found;
    }

    int depthOf(int letter) {
      int depth = 0;
      int above = answered[letter];
      while (isLetter(above) && depth < LETTERS) {
        depth++;
        above = answered[above];
      }
      return depth;
    }
  }

  /** Everything that is undone, saved and restored. */
  private static final class Desk {
    final int[] settings = {17, 30, 5};
    // The hours that have passed since the hour 0 of the day 0.
    int now;
    final Drawers drawers = new Drawers();
    final Letters letters = new Letters();

    void copyFrom(Desk other) {
      copy(other.settings, settings);
      now = other.now;
      drawers.copyFrom(other.drawers);
      letters.copyFrom(other.letters);
    }

    int today() {
      return now / DAY_HOURS;
    }

    int hourOfDay() {
      return now % DAY_HOURS;
    }

    int changeSetting(int setting, int value) {
      if (setting < POST || setting > COOLING || value < 0 || value > HIGHEST_SETTING[setting]) {
        return BAD_VALUE;
      }
      int previous = settings[setting];
      settings[setting] = value;
      return previous;
    }

    int writeLetter(int mood, int heat, int answers) {
      if (!isMood(mood) || answers != NONE && !letters.isLetter(answers)) {
        return NO_SUCH;
      }
      if (heat < 0 || heat > HIGHEST_HEAT) {
        return BAD_VALUE;
      }
      int letter = letters.written;
      if (letter >= LETTERS || letters.ofMood(mood, IN_DRAWER) >= DRAWER_ROOM) {
        return TOO_MANY;
      }
      if (answers != NONE && letters.how[answers] != SENT) {
        return NOT_POSSIBLE;
      }
      letters.mood[letter] = mood;
      letters.heat[letter] = heat;
      letters.writtenOn[letter] = today();
      letters.answered[letter] = answers;
      letters.how[letter] = IN_DRAWER;
      letters.sentOn[letter] = NONE;
      letters.written = letter + 1;
      return letter;
    }

    int turnKey(int mood) {
      if (!isMood(mood)) {
        return NO_SUCH;
      }
      drawers.locked[mood] = 1 - drawers.locked[mood];
      return drawers.locked[mood];
    }

    int changeRest(int mood, int days) {
      if (!isMood(mood)) {
        return NO_SUCH;
      }
      if (days < 0 || days > HIGHEST_REST) {
        return BAD_VALUE;
      }
      int previous = drawers.restDays[mood];
      drawers.restDays[mood] = days;
      return previous;
    }

    int changeHours(int mood, int unlocks, int locks) {
      if (!isMood(mood)) {
        return NO_SUCH;
      }
      if (unlocks != NONE && (!isHour(unlocks) || !isHour(locks) || unlocks == locks)) {
        return BAD_VALUE;
      }
      int had = drawers.unlockHour[mood] == NONE ? 0 : 1;
      drawers.unlockHour[mood] = unlocks;
      drawers.lockHour[mood] = unlocks == NONE ? NONE : locks;
      return had;
    }

    int burnLetter(int letter) {
      if (!letters.isLetter(letter)) {
        return NO_SUCH;
      }
      if (letters.how[letter] != IN_DRAWER || isShut(letters.mood[letter])) {
        return NOT_POSSIBLE;
      }
      letters.how[letter] = BURNT;
      return heatNow(letter);
    }

    boolean isShut(int mood) {
      return isMood(mood) && drawers.locked[mood] == 1;
    }

    int passHours(int hours) {
      if (hours < 1 || hours > LONGEST_PASS) {
        return BAD_VALUE;
      }
      if ((now + hours) / DAY_HOURS > LAST_DAY) {
        return NOT_POSSIBLE;
      }
      int sent = 0;
      for (int passed = 0; passed < hours; passed++) {
        drawers.turnKeysBy(hourOfDay());
        if (hourOfDay() == settings[POST]) {
          sent += send(setThatWouldGo());
        }
        now++;
      }
      return sent;
    }

    int send(long going) {
      for (int letter = 0; letter < letters.written; letter++) {
        if ((going >>> letter & 1L) == 1L) {
          letters.sentHeat[letter] = heatNow(letter);
          letters.sentOn[letter] = today();
          letters.how[letter] = SENT;
        }
      }
      return Long.bitCount(going);
    }

    long setThatWouldGo() {
      long going = 0L;
      for (int mood = 0; mood < MOODS; mood++) {
        for (int letter = 0; letter < letters.written; letter++) {
          if (drawers.locked[mood] == 0 && letters.lies(letter, mood) && today() >= readyDay(letter, mood)) {
            going |= 1L << letter;
          }
        }
      }
      return going;
    }

    // A letter never grows hotter again, so that it is ready from this day on.
    int readyDay(int letter, int mood) {
      int tooHot = letters.heat[letter] - settings[COOL];
      int cooling = settings[COOLING];
      int days = 0;
      if (tooHot > 0) {
        if (cooling <= 0) {
          return NEVER;
        }
        days = (tooHot + cooling - 1) / cooling;
      }
      return letters.writtenOn[letter] + Math.max(days, drawers.restDays[mood]);
    }

    int heatNow(int letter) {
      if (letters.how[letter] == SENT) {
        return letters.sentHeat[letter];
      }
      int days = today() - letters.writtenOn[letter];
      return Math.max(0, letters.heat[letter] - settings[COOLING] * days);
    }

    int heatInDrawer(int mood) {
      int together = 0;
      for (int letter = 0; letter < letters.written; letter++) {
        if (letters.lies(letter, mood)) {
          together += heatNow(letter);
        }
      }
      return together;
    }

    // For a letter in a drawer and a post at some hour; NONE if it takes more hours than most.
    int hoursTillSent(int letter, int post, int most) {
      int mood = letters.mood[letter];
      if (!isMood(mood)) {
        return NONE;
      }
      int ready = Math.max(now, readyDay(letter, mood) * DAY_HOURS);
      int later = ready + Math.floorMod(post - ready, DAY_HOURS);
      // Behind a day the hours have turned a key as they will on every other, so that a second miss is the last word.
      for (int misses = 0; misses < 2; misses++) {
        if (later - now >= most) {
          return NONE;
        }
        if (!drawers.isLockedAt(mood, now, later)) {
          return later - now + 1;
        }
        later += DAY_HOURS;
      }
      return NONE;
    }

    int sentWithin(int post, int hours) {
      int sent = 0;
      for (int letter = 0; letter < letters.written; letter++) {
        if (letters.how[letter] == IN_DRAWER && hoursTillSent(letter, post, hours) != NONE) {
          sent++;
        }
      }
      return sent;
    }
  }

  /** Works the regrets of all letters out at once, in a row that is used again. */
  private static final class Regrets {
    private final int[] regret = new int[LETTERS];

    int ofSent(Desk desk, int letter) {
      workOut(desk, NONE);
      return regret[letter];
    }

    int withSent(Desk desk, int letter, int alsoSent) {
      workOut(desk, alsoSent);
      return regret[letter];
    }

    int greatest(Desk desk) {
      workOut(desk, NONE);
      int found = NONE;
      int most = -1;
      for (int letter = 0; letter < desk.letters.written; letter++) {
        if (desk.letters.how[letter] == SENT && regret[letter] > most) {
          found = letter;
          most = regret[letter];
        }
      }
      return found;
    }

    // A letter answers an earlier one, so that from the last letter to the first one
    // every regret that a letter's own rests on stands in its place in time.
    private void workOut(Desk desk, int alsoSent) {
      Letters letters = desk.letters;
      for (int letter = 0; letter < LETTERS; letter++) {
        regret[letter] = 0;
      }
      for (int letter = letters.written - 1; letter >= 0; letter--) {
        if (letters.how[letter] == SENT || letter == alsoSent) {
          regret[letter] = desk.heatNow(letter) + regret[letter] / 2;
          int above = letters.answered[letter];
          if (letters.isLetter(above)) {
            regret[above] = Math.max(regret[above], regret[letter]);
          }
        }
      }
    }
  }

  /** The pad's text, and the reading of its orders from left to right. */
  private static final class Pad {
    final char[] text = new char[PAD_ROOM];
    int length;
    int at;
    // The order that was read last.
    int kind;
    int mood;
    int first;
    int second;

    void append(char character) {
      if (length < PAD_ROOM) {
        text[length] = character;
        length++;
      }
    }

    // Where the reading gets stuck is the fault, be it at a character or at the text's end.
    int faultIndex() {
      at = 0;
      for (int orders = 0; orders < PAD_ROOM; orders++) {
        if (!readOrder()) {
          return at;
        }
        if (at >= length) {
          return NONE;
        }
        if (!take(';')) {
          return at;
        }
      }
      return at;
    }

    boolean readOrder() {
      kind = next();
      second = NONE;
      if (take('+')) {
        return readMood() && take(':') && readFirst() && (!take('^') || readSecond());
      }
      if (take('k')) {
        return readMood();
      }
      if (take('t') || take('b')) {
        return readFirst();
      }
      return take('u') && readMood() && readFirst() && take('-') && readSecond();
    }

    // 0 behind the text, as no character of it is.
    char next() {
      return at >= 0 && at < length && at < PAD_ROOM ? text[at] : 0;
    }

    boolean take(char wanted) {
      if (next() != wanted) {
        return false;
      }
      at++;
      return true;
    }

    private boolean readMood() {
      mood = next() - '0';
      if (!isMood(mood)) {
        return false;
      }
      at++;
      return true;
    }

    private boolean readFirst() {
      first = readNumber();
      return first >= 0;
    }

    private boolean readSecond() {
      second = readNumber();
      return second >= 0;
    }

    // NONE if no number stands there. A digit too many is left, and nothing can take it then.
    private int readNumber() {
      if (!isDigit(next())) {
        return NONE;
      }
      int number = next() - '0';
      at++;
      if (number > 0 && isDigit(next())) {
        number = 10 * number + next() - '0';
        at++;
      }
      return number;
    }

    private static boolean isDigit(char character) {
      return character >= '0' && character <= '9';
    }
  }

  /** The states before the latest changes, the oldest one first, and behind them one that is only prepared. */
  private static final class History {
    private final Desk[] rows = new Desk[HISTORY + 1];
    int kept;

    void prepare(Desk desk) {
      Desk row = rows[kept];
      if (row == null) {
        row = new Desk();
        rows[kept] = row;
      }
      row.copyFrom(desk);
    }

    void keepPrepared() {
      if (kept < HISTORY) {
        kept++;
        return;
      }
      Desk oldest = rows[0];
      for (int row = 0; row < HISTORY; row++) {
        rows[row] = rows[row + 1];
      }
      rows[HISTORY] = oldest;
    }

    boolean takeBack(Desk desk) {
      if (kept < 1) {
        return false;
      }
      Desk row = rows[kept - 1];
      if (row == null) {
        return false;
      }
      kept--;
      desk.copyFrom(row);
      return true;
    }
  }
}
