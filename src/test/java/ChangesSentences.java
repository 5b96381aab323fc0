/** The sentences of the promises 1 to 8: a new object, set, write, turn, rest, hours, burn, pass. */
final class ChangesSentences {
  private static final String IS_A_CHANGE = "This is a change";
  private static final int NO_SUCH = MoodDrawers.NO_SUCH;
  private static final int BAD_VALUE = MoodDrawers.BAD_VALUE;
  private static final int TOO_MANY = MoodDrawers.TOO_MANY;
  private static final int NOT_POSSIBLE = MoodDrawers.NOT_POSSIBLE;
  private static final int NONE = MoodDrawers.NONE;
  private static final int[] MOST = {23, 99, 20};

  private ChangesSentences() {
  }

  static void test() {
    newObject();
    set();
    setErrors();
    write();
    writeArguments();
    writeErrors();
    turn();
    rest();
    hours();
    hoursErrors();
    burn();
    burnErrors();
    pass();
    passErrors();
  }

  private static void newObject() {
    Sentence empty = new Sentence("Promise 1", "Creates a desk without letters");
    MoodDrawers other = new MoodDrawers();
    other.write(0, 0, NONE);
    other.pass(30);
    MoodDrawers desk = new MoodDrawers();
    empty.due("letters", desk.count(2), 0);
    for (int what = 0; what < 4; what++) {
      empty.due("letters(" + what + ")", desk.letters(what), 0);
    }
    for (int mood = 0; mood < 6; mood++) {
      empty.due("letters in the drawer " + mood, desk.ofDrawer(mood, 0), 0);
    }
    empty.due("the first letter", desk.ofLetter(0, 0), NO_SUCH);
    Sentence start = new Sentence("Promise 1", "it is the day 0, the hour 0");
    start.due("the day", desk.count(0), 0);
    start.due("the hour", desk.count(1), 0);
  }

  private static void set() {
    Sentence changes = new Sentence("Promise 2", "Changes a setting");
    Sentence change = new Sentence("Promise 2", IS_A_CHANGE);
    Sentence previous = new Sentence("Promise 2", "Returns the previous value");
    int[] first = {17, 30, 5};
    for (int setting = 0; setting < 3; setting++) {
      MoodDrawers desk = new MoodDrawers();
      String before = Told.state(desk);
      previous.due("the first value of " + setting, desk.set(setting, MOST[setting]), first[setting]);
      changes.due("the highest value of " + setting, desk.count(7 + setting), MOST[setting]);
      for (int other = 0; other < 3; other++) {
        changes.due("the other setting " + other, other == setting ? 0 : desk.count(7 + other) - first[other], 0);
      }
      change.dueOneChange(desk, before, 0);
      previous.due("the first value again", desk.set(setting, 0), first[setting]);
      changes.due("the lowest value of " + setting, desk.count(7 + setting), 0);
      previous.due("a previous value of 0", desk.set(setting, 0), 0);
      change.due("one that changes nothing", desk.count(11), 2);
    }
  }

  private static void setErrors() {
    Sentence said = new Sentence("Promise 2",
        "BAD_VALUE if there is no such setting, or the value is out of its range");
    MoodDrawers desk = new MoodDrawers();
    for (int setting : Checks.outside(0, 2)) {
      said.due("set(" + setting + ", 0)", desk.set(setting, 0), BAD_VALUE);
    }
    for (int setting = 0; setting < 3; setting++) {
      for (int value : Checks.outside(0, MOST[setting])) {
        said.due("set(" + setting + ", " + value + ")", desk.set(setting, value), BAD_VALUE);
      }
    }
  }

  private static void write() {
    Sentence writes = new Sentence("Promise 3", "Writes a letter");
    Sentence change = new Sentence("Promise 3", IS_A_CHANGE);
    Sentence number = new Sentence("Promise 3", "Returns its number");
    MoodDrawers desk = new MoodDrawers();
    desk.pass(24);
    String before = Told.state(desk);
    number.due("the first one", desk.write(5, 70, NONE), 0);
    int[] due = {5, 70, 70, 1, 0, NONE, NONE, 0, 0, 0};
    for (int what = 0; what < due.length; what++) {
      writes.due("ofLetter(0, " + what + ")", desk.ofLetter(0, what), due[what]);
    }
    change.dueOneChange(desk, before, 1);
    for (int letter = 0; letter < 30; letter++) {
      number.due("the next one", desk.write(letter % 6, 0, NONE), letter);
    }
    desk.turn(0);
    desk.undo();
    desk.undo();
    desk.turn(5);
    number.due("the last one, undone and written into a locked drawer", desk.write(5, 1, NONE), 29);
    writes.due("its heat", desk.ofLetter(29, 1), 1);
  }

  private static void writeArguments() {
    Sentence heats = new Sentence("Promise 3", "`heat`: 0 to 99");
    MoodDrawers desk = Checks.quickDesk();
    heats.due("the lowest heat", desk.write(0, 0, NONE), 0);
    heats.due("the highest heat", desk.write(0, 99, NONE), 1);
    heats.due("below", desk.write(0, -1, NONE), BAD_VALUE);
    heats.due("above", desk.write(0, 100, NONE), BAD_VALUE);
    Sentence answers = new Sentence("Promise 3", "`answers`: a letter that was sent, or NONE");
    desk.pass(24);
    answers.due("the first letter", desk.write(1, 0, 0), 2);
    answers.due("what it answers", desk.ofLetter(2, 6), 0);
    answers.due("the same one again", desk.write(1, 0, 0), 3);
    answers.due("the second letter", desk.write(1, 0, 1), 4);
    answers.due("what it answers", desk.ofLetter(4, 6), 1);
    answers.due("NONE", desk.write(1, 0, NONE), 5);
    answers.due("none", desk.ofLetter(5, 6), NONE);
  }

  private static void writeErrors() {
    Sentence noSuch = new Sentence("Promise 3",
        "NO_SUCH if there is no such mood, or answers is neither a letter nor NONE");
    Sentence badValue = new Sentence("Promise 3", "BAD_VALUE if heat is out of range");
    Sentence notPossible = new Sentence("Promise 3", "NOT_POSSIBLE if the letter that it answers was not sent");
    MoodDrawers desk = new MoodDrawers();
    noSuch.due("answers 0 without letters", desk.write(0, 0, 0), NO_SUCH);
    Checks.write(desk, 0, 3);
    desk.burn(1);
    for (int mood : Checks.outside(0, 5)) {
      noSuch.due("mood " + mood, desk.write(mood, 0, NONE), NO_SUCH);
    }
    for (int answers : new int[] {-1, -2, -5, -7, 3, 29, 30, Integer.MIN_VALUE, Integer.MAX_VALUE}) {
      noSuch.due("answers " + answers, desk.write(0, 0, answers), NO_SUCH);
    }
    for (int heat : Checks.outside(0, 99)) {
      badValue.due("heat " + heat, desk.write(0, heat, NONE), BAD_VALUE);
    }
    notPossible.due("answers one in a drawer", desk.write(0, 0, 0), NOT_POSSIBLE);
    notPossible.due("answers a burnt one", desk.write(0, 0, 1), NOT_POSSIBLE);
    desk.pass(65);
    notPossible.due("an hour before it is sent", desk.write(0, 0, 2), NOT_POSSIBLE);
    desk.pass(1);
    notPossible.due("as soon as it is sent", desk.write(0, 0, 2), 3);
    Sentence tooMany = new Sentence("Promise 3", "TOO_MANY if there are 30 letters, or 8 in the drawer");
    Checks.write(desk, 0, 6);
    tooMany.due("the eighth in the drawer", desk.write(0, 0, NONE), 10);
    tooMany.due("the ninth in the drawer", desk.write(0, 0, NONE), TOO_MANY);
    desk.burn(10);
    tooMany.due("the eighth again, behind a burnt one", desk.write(0, 0, NONE), 11);
    tooMany.due("the ninth again", desk.write(0, 0, NONE), TOO_MANY);
    desk.pass(72);
    tooMany.due("one more behind sent ones", desk.write(0, 0, NONE), 12);
    for (int letter = 13; letter < 30; letter++) {
      tooMany.due("up to 30 letters", desk.write(1 + letter % 5, 0, NONE), letter);
    }
    tooMany.due("31 letters", desk.write(0, 0, NONE), TOO_MANY);
    desk.burn(29);
    tooMany.due("31 letters, one of them burnt", desk.write(0, 0, NONE), TOO_MANY);
  }

  private static void turn() {
    Sentence turns = new Sentence("Promise 4",
        "Turns the key of a drawer: it is locked, or unlocked, if it is locked");
    Sentence change = new Sentence("Promise 4", IS_A_CHANGE);
    Sentence returns = new Sentence("Promise 4", "Returns 1 if it is locked then, otherwise 0");
    Sentence noSuch = new Sentence("Promise 4", "NO_SUCH if there is no such drawer");
    for (int mood = 0; mood < 6; mood++) {
      MoodDrawers desk = new MoodDrawers();
      String before = Told.state(desk);
      returns.due("turn once", desk.turn(mood), 1);
      turns.due("locked", desk.ofDrawer(mood, 1), 1);
      turns.due("no other one", desk.count(6), 1);
      change.dueOneChange(desk, before, 0);
      desk.turn(mood);
      before = Told.state(desk);
      returns.due("turn twice", desk.turn(mood), 0);
      turns.due("unlocked", desk.ofDrawer(mood, 1), 0);
      change.dueOneChange(desk, before, 1);
    }
    MoodDrawers byHours = new MoodDrawers();
    byHours.hours(0, 5, 0);
    byHours.pass(1);
    returns.due("one that the hour has locked", byHours.turn(0), 0);
    turns.due("unlocked", byHours.ofDrawer(0, 1), 0);
    for (int mood : Checks.outside(0, 5)) {
      noSuch.due("turn(" + mood + ")", byHours.turn(mood), NO_SUCH);
    }
  }

  private static void rest() {
    Sentence changes = new Sentence("Promise 5", "Changes the rest of a drawer");
    Sentence change = new Sentence("Promise 5", IS_A_CHANGE);
    Sentence range = new Sentence("Promise 5", "`days`: 0 to 30");
    Sentence previous = new Sentence("Promise 5", "Returns the previous rest");
    Sentence noSuch = new Sentence("Promise 5", "NO_SUCH if there is no such drawer");
    Sentence badValue = new Sentence("Promise 5", "BAD_VALUE if days is out of range");
    MoodDrawers desk = new MoodDrawers();
    String before = Told.state(desk);
    previous.due("the first rest", desk.rest(3, 30), 2);
    changes.due("the drawer's rest", desk.ofDrawer(3, 2), 30);
    changes.due("another drawer's rest", desk.ofDrawer(2, 2), 2);
    change.dueOneChange(desk, before, 0);
    for (int days = 0; days <= 30; days++) {
      previous.due("the rest before " + days, desk.rest(0, days), days == 0 ? 2 : days - 1);
      range.due("the rest " + days, desk.ofDrawer(0, 2), days);
    }
    range.due("-1", desk.rest(0, -1), BAD_VALUE);
    range.due("31", desk.rest(0, 31), BAD_VALUE);
    for (int days : Checks.outside(0, 30)) {
      badValue.due("rest(0, " + days + ")", desk.rest(0, days), BAD_VALUE);
    }
    for (int mood : Checks.outside(0, 5)) {
      noSuch.due("rest(" + mood + ", 0)", desk.rest(mood, 0), NO_SUCH);
    }
  }

  private static void hours() {
    Sentence changes = new Sentence("Promise 6", "Changes the hours of a drawer (or takes them away)");
    Sentence change = new Sentence("Promise 6", IS_A_CHANGE);
    Sentence unlocks = new Sentence("Promise 6", "`unlocks`: 0 to 23, or NONE (it has none then, whatever locks is)");
    Sentence locks = new Sentence("Promise 6", "`locks`: 0 to 23");
    Sentence returns = new Sentence("Promise 6", "Returns 1 if it had hours, otherwise 0");
    for (int whatever : new int[] {NONE, -1, 0, 23, 24, Integer.MIN_VALUE, Integer.MAX_VALUE}) {
      MoodDrawers desk = new MoodDrawers();
      String before = Told.state(desk);
      returns.due("no hours at first", desk.hours(4, 0, 23), 0);
      changes.due("unlocked at", desk.ofDrawer(4, 3), 0);
      changes.due("locked at", desk.ofDrawer(4, 4), 23);
      changes.due("another drawer", desk.ofDrawer(3, 3), NONE);
      change.dueOneChange(desk, before, 0);
      desk.hours(4, 0, 23);
      before = Told.state(desk);
      returns.due("hours that are taken away", desk.hours(4, NONE, whatever), 1);
      unlocks.due("no hour to unlock", desk.ofDrawer(4, 3), NONE);
      unlocks.due("no hour to lock", desk.ofDrawer(4, 4), NONE);
      desk.pass(24);
      changes.due("the hours taken away lock nothing", desk.count(6), 0);
      desk.undo();
      change.dueOneChange(desk, before, 1);
      desk.hours(4, NONE, whatever);
      returns.due("no hours any more", desk.hours(4, NONE, whatever), 0);
    }
    MoodDrawers desk = new MoodDrawers();
    for (int hour = 0; hour < 24; hour++) {
      unlocks.due("unlocked at " + hour, desk.hours(0, hour, 23 - hour), hour == 0 ? 0 : 1);
      unlocks.due("hour to unlock", desk.ofDrawer(0, 3), hour);
      locks.due("hour to lock", desk.ofDrawer(0, 4), 23 - hour);
    }
    unlocks.due("unlocked at 24", desk.hours(0, 24, 0), BAD_VALUE);
    unlocks.due("unlocked at -1", desk.hours(0, -1, 0), BAD_VALUE);
    locks.due("locked at 24", desk.hours(0, 0, 24), BAD_VALUE);
    locks.due("locked at -1", desk.hours(0, 0, -1), BAD_VALUE);
    locks.due("locked at NONE", desk.hours(0, 0, NONE), BAD_VALUE);
  }

  private static void hoursErrors() {
    Sentence noSuch = new Sentence("Promise 6", "NO_SUCH if there is no such drawer");
    Sentence badValue = new Sentence("Promise 6", "BAD_VALUE if an hour is out of range, or both are the same");
    MoodDrawers desk = new MoodDrawers();
    for (int mood : Checks.outside(0, 5)) {
      noSuch.due("hours(" + mood + ", 1, 2)", desk.hours(mood, 1, 2), NO_SUCH);
      noSuch.due("hours(" + mood + ", NONE, 2)", desk.hours(mood, NONE, 2), NO_SUCH);
    }
    for (int hour : new int[] {-1, -5, -7, 24, Integer.MIN_VALUE, Integer.MAX_VALUE}) {
      badValue.due("hours(0, " + hour + ", 5)", desk.hours(0, hour, 5), BAD_VALUE);
      badValue.due("hours(0, 5, " + hour + ")", desk.hours(0, 5, hour), BAD_VALUE);
      badValue.due("hours(0, " + hour + ", NONE)", desk.hours(0, hour, NONE), BAD_VALUE);
    }
    badValue.due("hours(0, 5, NONE)", desk.hours(0, 5, NONE), BAD_VALUE);
    badValue.due("hours(0, 0, 0)", desk.hours(0, 0, 0), BAD_VALUE);
    badValue.due("hours(0, 23, 23)", desk.hours(0, 23, 23), BAD_VALUE);
    badValue.due("no hours by that", desk.ofDrawer(0, 3), NONE);
  }

  private static void burn() {
    Sentence burns = new Sentence("Promise 7", "Burns a letter that lies in a drawer that is not locked");
    Sentence change = new Sentence("Promise 7", IS_A_CHANGE);
    Sentence heat = new Sentence("Promise 7", "Returns its heat");
    MoodDrawers desk = new MoodDrawers();
    desk.write(0, 99, NONE);
    desk.write(1, 14, NONE);
    String before = Told.state(desk);
    heat.due("on the day on which it was written", desk.burn(0), 99);
    burns.due("burnt", desk.ofLetter(0, 4), 2);
    burns.due("in its drawer", desk.ofDrawer(0, 0), 0);
    burns.due("the other one", desk.ofLetter(1, 4), 0);
    change.dueOneChange(desk, before, 2);
    desk.pass(48);
    heat.due("2 days later", desk.burn(0), 89);
    desk.turn(1);
    desk.pass(24);
    desk.turn(1);
    heat.due("no heat is left", desk.burn(1), 0);
    burns.due("both are burnt", desk.letters(2), 3);
  }

  private static void burnErrors() {
    Sentence noSuch = new Sentence("Promise 7", "NO_SUCH if there is no such letter");
    Sentence notPossible = new Sentence("Promise 7",
        "NOT_POSSIBLE if it does not lie in a drawer, or that is locked");
    MoodDrawers desk = Checks.quickDesk();
    noSuch.due("burn(0) without letters", desk.burn(0), NO_SUCH);
    Checks.write(desk, 0, 3);
    for (int letter : new int[] {NONE, 29, 30, 31, 32}) {
      noSuch.due("burn(" + letter + ")", desk.burn(letter), NO_SUCH);
    }
    for (int letter : Checks.outside(0, 2)) {
      noSuch.due("burn(" + letter + ")", desk.burn(letter), NO_SUCH);
    }
    desk.burn(2);
    notPossible.due("a burnt one", desk.burn(2), NOT_POSSIBLE);
    desk.turn(0);
    notPossible.due("in a locked drawer", desk.burn(0), NOT_POSSIBLE);
    notPossible.due("a burnt one of a locked drawer", desk.burn(2), NOT_POSSIBLE);
    desk.turn(0);
    notPossible.due("in the drawer unlocked again", desk.burn(0), 0);
    desk.pass(18);
    notPossible.due("a sent one", desk.burn(1), NOT_POSSIBLE);
    desk.hours(1, 20, 18);
    desk.write(1, 5, NONE);
    desk.pass(1);
    notPossible.due("in a drawer that the hour has locked", desk.burn(3), NOT_POSSIBLE);
    desk.pass(2);
    notPossible.due("in a drawer that the hour has unlocked", desk.burn(3), 5);
    MoodDrawers full = Checks.fullDesk();
    noSuch.due("burn(30) of 30 letters", full.burn(30), NO_SUCH);
    noSuch.due("burn(29) of 30 letters", full.burn(29), 0);
  }

  private static void pass() {
    Sentence passes = new Sentence("Promise 8", "Hours pass");
    Sentence change = new Sentence("Promise 8", IS_A_CHANGE);
    Sentence range = new Sentence("Promise 8", "`hours`: 1 to 240");
    Sentence returns = new Sentence("Promise 8", "Returns how many letters are sent in them");
    MoodDrawers desk = new MoodDrawers();
    desk.write(0, 0, NONE);
    desk.write(0, 0, NONE);
    desk.write(1, 45, NONE);
    String before = Told.state(desk);
    returns.due("over two posts", desk.pass(48 + 24 + 18), 3);
    passes.due("the day", desk.count(0), 3);
    passes.due("the hour", desk.count(1), 18);
    change.dueOneChange(desk, before, 3);
    returns.due("ahead of the post", desk.pass(48 + 17), 0);
    returns.due("the hour of the post", desk.pass(1), 2);
    returns.due("behind the post", desk.pass(23), 0);
    returns.due("the next post", desk.pass(1), 1);
    returns.due("nothing is left", desk.pass(240), 0);
    MoodDrawers clock = new MoodDrawers();
    range.due("pass(1)", clock.pass(1), 0);
    passes.due("an hour later: the day", clock.count(0), 0);
    passes.due("an hour later: the hour", clock.count(1), 1);
    range.due("pass(240)", clock.pass(240), 0);
    passes.due("240 hours later: the day", clock.count(0), 10);
    passes.due("240 hours later: the hour", clock.count(1), 1);
    range.due("pass(0)", clock.pass(0), BAD_VALUE);
    range.due("pass(241)", clock.pass(241), BAD_VALUE);
  }

  private static void passErrors() {
    Sentence badValue = new Sentence("Promise 8", "BAD_VALUE if hours is out of range");
    Sentence notPossible = new Sentence("Promise 8", "NOT_POSSIBLE if the day of now would be above 999");
    MoodDrawers desk = new MoodDrawers();
    for (int hours : Checks.outside(1, 240)) {
      badValue.due("pass(" + hours + ")", desk.pass(hours), BAD_VALUE);
    }
    badValue.due("the hour as it was", desk.count(1), 0);
    Checks.passUntil(desk, 990, 0);
    notPossible.due("240 hours up to the day 1000", desk.pass(240), NOT_POSSIBLE);
    notPossible.due("239 hours up to the last hour", desk.pass(239), 0);
    notPossible.due("the day", desk.count(0), 999);
    notPossible.due("the hour", desk.count(1), 23);
    notPossible.due("one hour more", desk.pass(1), NOT_POSSIBLE);
    notPossible.due("240 hours more", desk.pass(240), NOT_POSSIBLE);
    for (int hours : Checks.outside(1, 240)) {
      badValue.due("on the last day: pass(" + hours + ")", desk.pass(hours), BAD_VALUE);
    }
    desk.undo();
    notPossible.due("240 hours as before", desk.pass(240), NOT_POSSIBLE);
    notPossible.due("an hour again", desk.pass(1), 0);
    notPossible.due("the hour 1 of the day 990", desk.count(1), 1);
  }
}
