import java.util.ArrayDeque;
import java.util.ArrayList;
import java.util.Deque;
import java.util.List;
import java.util.regex.Pattern;

/**
 * The document once more, in the plainest way: every what-if is a copy of the desk on which the hours pass
 * one by one. MoodDrawers, which reckons instead, has to answer as this does.
 */
final class PlainDesk {
  private static final String NUMBER = "(0|[1-9][0-9]?)";
  private static final String ORDER = "(\\+[0-5]:" + NUMBER + "(\\^" + NUMBER + ")?|k[0-5]|t" + NUMBER + "|b" + NUMBER
      + "|u[0-5]" + NUMBER + "-" + NUMBER + ")";
  private static final Pattern TEXT = Pattern.compile(ORDER + "(;" + ORDER + ")*");
  private static final String[] ENDS = {"", "0", "0:0", ":0", "k0", "00-0", "0-0", "-0"};

  private static final class Letter implements Cloneable {
    int mood, heat, day, answers, how, sentDay = -6, sentHeat;

    Letter copy() {
      try {
        return (Letter) clone();
      } catch (CloneNotSupportedException e) {
        throw new IllegalStateException(e);
      }
    }
  }

  private static final class State {
    int[] settings = {17, 30, 5};
    int day, hour;
    int[] rest = {2, 2, 2, 2, 2, 2};
    boolean[] locked = new boolean[6];
    int[] unlocks = {-6, -6, -6, -6, -6, -6};
    int[] locks = {-6, -6, -6, -6, -6, -6};
    List<Letter> letters = new ArrayList<>();

    State copy() {
      State made = new State();
      made.settings = settings.clone();
      made.day = day;
      made.hour = hour;
      made.rest = rest.clone();
      made.locked = locked.clone();
      made.unlocks = unlocks.clone();
      made.locks = locks.clone();
      for (Letter letter : letters) {
        made.letters.add(letter.copy());
      }
      return made;
    }

    int heat(Letter letter) {
      return letter.how == 1 ? letter.sentHeat : Math.max(0, letter.heat - settings[2] * (day - letter.day));
    }

    boolean goes(Letter letter) {
      return letter.how == 0 && !locked[letter.mood] && day - letter.day >= rest[letter.mood]
          && heat(letter) <= settings[1];
    }

    int hourPasses() {
      int sent = 0;
      for (int mood = 0; mood < 6; mood++) {
        if (unlocks[mood] == hour) {
          locked[mood] = false;
        }
        if (locks[mood] == hour) {
          locked[mood] = true;
        }
      }
      if (hour == settings[0]) {
        for (Letter letter : letters) {
          if (goes(letter)) {
            letter.sentHeat = heat(letter);
            letter.how = 1;
            letter.sentDay = day;
            sent++;
          }
        }
      }
      hour++;
      if (hour == 24) {
        hour = 0;
        day++;
      }
      return sent;
    }

    int regret(int number) {
      Letter letter = letters.get(number);
      if (letter.how != 1) {
        return 0;
      }
      int most = 0;
      for (int other = 0; other < letters.size(); other++) {
        if (letters.get(other).answers == number) {
          most = Math.max(most, regret(other));
        }
      }
      return heat(letter) + most / 2;
    }

    int in(int mood, int how) {
      int found = 0;
      for (Letter letter : letters) {
        if ((mood < 0 || letter.mood == mood) && letter.how == how) {
          found++;
        }
      }
      return found;
    }
  }

  private State now = new State();
  private final Deque<State> history = new ArrayDeque<>();
  private final State[] slots = new State[2];
  private String pad = "";

  private static boolean out(int value, int most) {
    return value < 0 || value > most;
  }

  private boolean noLetter(int letter) {
    return letter < 0 || letter >= now.letters.size();
  }

  private int recorded(State before, int answer) {
    if (answer >= 0) {
      history.addLast(before);
      if (history.size() > 6) {
        history.removeFirst();
      }
    }
    return answer;
  }

  int set(int setting, int value) {
    State before = now.copy();
    if (out(setting, 2) || out(value, new int[] {23, 99, 20}[setting])) {
      return -2;
    }
    int previous = now.settings[setting];
    now.settings[setting] = value;
    return recorded(before, previous);
  }

  int write(int mood, int heat, int answers) {
    State before = now.copy();
    return recorded(before, plainWrite(mood, heat, answers));
  }

  private int plainWrite(int mood, int heat, int answers) {
    if (out(mood, 5) || answers != -6 && noLetter(answers)) {
      return -1;
    }
    if (out(heat, 99)) {
      return -2;
    }
    if (now.letters.size() == 30 || now.in(mood, 0) == 8) {
      return -4;
    }
    if (answers != -6 && now.letters.get(answers).how != 1) {
      return -5;
    }
    Letter letter = new Letter();
    letter.mood = mood;
    letter.heat = heat;
    letter.day = now.day;
    letter.answers = answers;
    now.letters.add(letter);
    return now.letters.size() - 1;
  }

  int turn(int mood) {
    State before = now.copy();
    return recorded(before, plainTurn(mood));
  }

  private int plainTurn(int mood) {
    if (out(mood, 5)) {
      return -1;
    }
    now.locked[mood] = !now.locked[mood];
    return now.locked[mood] ? 1 : 0;
  }

  int rest(int mood, int days) {
    State before = now.copy();
    if (out(mood, 5)) {
      return -1;
    }
    if (out(days, 30)) {
      return -2;
    }
    int previous = now.rest[mood];
    now.rest[mood] = days;
    return recorded(before, previous);
  }

  int hours(int mood, int unlocks, int locks) {
    State before = now.copy();
    return recorded(before, plainHours(mood, unlocks, locks));
  }

  private int plainHours(int mood, int unlocks, int locks) {
    if (out(mood, 5)) {
      return -1;
    }
    int had = now.unlocks[mood] >= 0 ? 1 : 0;
    if (unlocks == -6) {
      now.unlocks[mood] = -6;
      now.locks[mood] = -6;
      return had;
    }
    if (out(unlocks, 23) || out(locks, 23) || unlocks == locks) {
      return -2;
    }
    now.unlocks[mood] = unlocks;
    now.locks[mood] = locks;
    return had;
  }

  int burn(int letter) {
    State before = now.copy();
    return recorded(before, plainBurn(letter));
  }

  private int plainBurn(int number) {
    if (noLetter(number)) {
      return -1;
    }
    Letter letter = now.letters.get(number);
    if (letter.how != 0 || now.locked[letter.mood]) {
      return -5;
    }
    letter.how = 2;
    return now.heat(letter);
  }

  int pass(int hours) {
    State before = now.copy();
    return recorded(before, plainPass(hours));
  }

  private int plainPass(int hours) {
    if (hours < 1 || hours > 240) {
      return -2;
    }
    State after = now.copy();
    int sent = 0;
    for (int i = 0; i < hours; i++) {
      sent += after.hourPasses();
    }
    if (after.day > 999) {
      return -5;
    }
    now = after;
    return sent;
  }

  int ofLetter(int number, int what) {
    if (noLetter(number)) {
      return -1;
    }
    if (out(what, 9)) {
      return -2;
    }
    Letter letter = now.letters.get(number);
    int answering = 0;
    for (Letter other : now.letters) {
      answering += other.answers == number ? 1 : 0;
    }
    int depth = 0;
    for (Letter above = letter; above.answers != -6; above = now.letters.get(above.answers)) {
      depth++;
    }
    return new int[] {letter.mood, letter.heat, now.heat(letter), letter.day, letter.how, letter.sentDay,
        letter.answers, now.regret(number), answering, depth}[what];
  }

  int ofDrawer(int mood, int what) {
    if (out(mood, 5)) {
      return -1;
    }
    if (out(what, 7)) {
      return -2;
    }
    int heat = 0;
    for (Letter letter : now.letters) {
      heat += letter.mood == mood && letter.how == 0 ? now.heat(letter) : 0;
    }
    return new int[] {now.in(mood, 0), now.locked[mood] ? 1 : 0, now.rest[mood], now.unlocks[mood], now.locks[mood],
        heat, now.in(mood, 1), now.in(mood, 2)}[what];
  }

  long letters(int what) {
    if (out(what, 3)) {
      return -2;
    }
    long found = 0;
    for (int number = 0; number < now.letters.size(); number++) {
      Letter letter = now.letters.get(number);
      if (what == 3 ? now.goes(letter) : letter.how == what) {
        found += 1L << number;
      }
    }
    return found;
  }

  int count(int what) {
    if (out(what, 11)) {
      return -2;
    }
    int locked = 0;
    for (boolean one : now.locked) {
      locked += one ? 1 : 0;
    }
    return new int[] {now.day, now.hour, now.letters.size(), now.in(-1, 0), now.in(-1, 1), now.in(-1, 2), locked,
        now.settings[0], now.settings[1], now.settings[2], pad.length(), history.size()}[what];
  }

  long meanHeat() {
    int sum = 0;
    for (Letter letter : now.letters) {
      sum += letter.how == 1 ? letter.sentHeat : 0;
    }
    int sent = now.in(-1, 1);
    return sent == 0 ? 0 : Double.doubleToLongBits((double) sum / (double) sent);
  }

  int share() {
    return now.letters.isEmpty() ? -6
        : Float.floatToIntBits((float) now.in(-1, 1) / (float) now.letters.size());
  }

  int goesIn(int number) {
    if (noLetter(number)) {
      return -1;
    }
    if (now.letters.get(number).how == 2) {
      return -5;
    }
    State trial = now.copy();
    for (int hours = 0; hours <= 1200; hours++) {
      if (trial.letters.get(number).how == 1) {
        return hours;
      }
      trial.hourPasses();
    }
    return -6;
  }

  int bestPost(int days, int what) {
    if (days < 1 || days > 20 || out(what, 1)) {
      return -2;
    }
    int best = 0;
    int most = 0;
    for (int post = 0; post < 24; post++) {
      State trial = now.copy();
      trial.settings[0] = post;
      int sent = 0;
      for (int hour = 0; hour < 24 * days; hour++) {
        sent += trial.hourPasses();
      }
      if (sent > most) {
        best = post;
        most = sent;
      }
    }
    return what == 0 ? best : most;
  }

  int mostRegretted() {
    int found = -6;
    for (int number = now.letters.size() - 1; number >= 0; number--) {
      if (now.letters.get(number).how == 1 && (found == -6 || now.regret(number) >= now.regret(found))) {
        found = number;
      }
    }
    return found;
  }

  int ifSent(int regrets, int letter) {
    if (noLetter(regrets) || noLetter(letter)) {
      return -1;
    }
    if (now.letters.get(regrets).how != 1 || now.letters.get(letter).how != 0) {
      return -5;
    }
    State trial = now.copy();
    trial.letters.get(letter).sentHeat = now.heat(now.letters.get(letter));
    trial.letters.get(letter).how = 1;
    return trial.regret(regrets);
  }

  int put(long characters) {
    StringBuilder text = new StringBuilder();
    boolean ended = false;
    for (int i = 0; i < 8; i++) {
      int code = (int) (characters >>> 8 * i & 255);
      if (code != 0 && (ended || code < 33 || code > 126)) {
        return -2;
      }
      ended |= code == 0;
      if (code != 0) {
        text.insert(0, (char) code);
      }
    }
    if (text.length() == 0) {
      return -2;
    }
    if (pad.length() + text.length() > 80) {
      return -4;
    }
    pad += text;
    return pad.length();
  }

  int wipe() {
    int length = pad.length();
    pad = "";
    return length;
  }

  /** The first character with which no text can begin any more is the fault. */
  int fault() {
    for (int length = 1; length <= pad.length(); length++) {
      boolean stands = false;
      for (String end : ENDS) {
        stands |= TEXT.matcher(pad.substring(0, length) + end).matches();
      }
      if (!stands) {
        return length - 1;
      }
    }
    return TEXT.matcher(pad).matches() ? -6 : pad.length();
  }

  int carryOut() {
    if (fault() != -6) {
      return -3;
    }
    State before = now.copy();
    int done = 0;
    for (String order : pad.split(";")) {
      if (carriedOut(order) < 0) {
        break;
      }
      done++;
    }
    pad = "";
    return recorded(before, done);
  }

  private int carriedOut(String order) {
    char kind = order.charAt(0);
    String rest = order.substring(1);
    if (kind == 't') {
      return plainPass(Integer.parseInt(rest));
    }
    if (kind == 'b') {
      return plainBurn(Integer.parseInt(rest));
    }
    int mood = rest.charAt(0) - '0';
    if (kind == 'k') {
      return plainTurn(mood);
    }
    if (kind == 'u') {
      String[] hours = rest.substring(1).split("-");
      return plainHours(mood, Integer.parseInt(hours[0]), Integer.parseInt(hours[1]));
    }
    String[] numbers = rest.substring(2).split("\\^");
    return plainWrite(mood, Integer.parseInt(numbers[0]), numbers.length == 1 ? -6 : Integer.parseInt(numbers[1]));
  }

  int undo() {
    if (history.isEmpty()) {
      return -5;
    }
    now = history.removeLast();
    return history.size();
  }

  int save(int slot) {
    if (out(slot, 1)) {
      return -2;
    }
    slots[slot] = now.copy();
    return now.letters.size();
  }

  int restore(int slot) {
    if (out(slot, 1)) {
      return -2;
    }
    if (slots[slot] == null) {
      return -5;
    }
    State before = now;
    now = slots[slot].copy();
    return recorded(before, now.letters.size());
  }
}
