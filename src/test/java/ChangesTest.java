/** Promises 1 to 8: a new object, set, write, turn, rest, hours, burn, pass. */
public final class ChangesTest {
  private static final int NO_SUCH = MoodDrawers.NO_SUCH;
  private static final int BAD_VALUE = MoodDrawers.BAD_VALUE;
  private static final int TOO_MANY = MoodDrawers.TOO_MANY;
  private static final int NOT_POSSIBLE = MoodDrawers.NOT_POSSIBLE;
  private static final int NONE = MoodDrawers.NONE;

  public static void main(String[] args) {
    newObject();
    set();
    setMatters();
    write();
    writeInFullDrawersAndDesk();
    writeErrorsInOrder();
    turn();
    rest();
    hours();
    hoursTurnKeys();
    burn();
    pass();
    passSends();
    passLooksAtLocksBehindTheHours();
    passUpToTheLastDay();
    Checks.end("ChangesTest");
  }

  private static void newObject() {
    MoodDrawers desk = new MoodDrawers();
    int[] counts = {0, 0, 0, 0, 0, 0, 0, 17, 30, 5, 0, 0};
    for (int what = 0; what < counts.length; what++) {
      Checks.due("new: count(" + what + ")", desk.count(what), counts[what]);
    }
    int[] drawer = {0, 0, 2, NONE, NONE, 0, 0, 0};
    for (int mood = 0; mood < 6; mood++) {
      for (int what = 0; what < drawer.length; what++) {
        Checks.due("new: ofDrawer(" + mood + ", " + what + ")", desk.ofDrawer(mood, what), drawer[what]);
      }
    }
    for (int what = 0; what < 4; what++) {
      Checks.due("new: letters(" + what + ")", desk.letters(what), 0);
    }
    Checks.due("new: restore(0)", desk.restore(0), NOT_POSSIBLE);
    Checks.due("new: restore(1)", desk.restore(1), NOT_POSSIBLE);
    Checks.due("new: undo()", desk.undo(), NOT_POSSIBLE);
  }

  private static void set() {
    MoodDrawers desk = new MoodDrawers();
    int[] first = {17, 30, 5};
    int[] most = {23, 99, 20};
    for (int setting = 0; setting < 3; setting++) {
      Checks.due("set to the most", desk.set(setting, most[setting]), first[setting]);
      Checks.due("set above the most", desk.set(setting, most[setting] + 1), BAD_VALUE);
      Checks.due("set below 0", desk.set(setting, -1), BAD_VALUE);
      Checks.due("it stays", desk.count(7 + setting), most[setting]);
      Checks.due("set to 0", desk.set(setting, 0), most[setting]);
      Checks.due("set far above", desk.set(setting, Integer.MAX_VALUE), BAD_VALUE);
      Checks.due("set far below", desk.set(setting, Integer.MIN_VALUE), BAD_VALUE);
      Checks.due("it is 0", desk.count(7 + setting), 0);
    }
    for (int setting : new int[] {-1, 3, Integer.MIN_VALUE, Integer.MAX_VALUE}) {
      Checks.due("no such setting", desk.set(setting, 1), BAD_VALUE);
    }
    Checks.due("changes of set", desk.count(11), 6);
  }

  private static void setMatters() {
    MoodDrawers desk = new MoodDrawers();
    desk.write(0, 90, NONE);
    desk.pass(48);
    Checks.due("heat, 5 a day", desk.ofLetter(0, 2), 80);
    desk.set(MoodDrawers.COOLING, 20);
    Checks.due("heat, 20 for each day since", desk.ofLetter(0, 2), 50);
    Checks.due("too hot", desk.letters(3), 0);
    desk.set(MoodDrawers.COOL, 49);
    Checks.due("still too hot", desk.letters(3), 0);
    desk.set(MoodDrawers.COOL, 50);
    Checks.due("cool enough", desk.letters(3), 1);
    desk.set(MoodDrawers.POST, 0);
    Checks.due("the post of the hour 0", desk.pass(1), 1);
    desk.set(MoodDrawers.COOLING, 0);
    Checks.due("heat as it was sent", desk.ofLetter(0, 2), 50);
  }

  private static void write() {
    MoodDrawers desk = new MoodDrawers();
    Checks.due("write", desk.write(0, 0, NONE), 0);
    Checks.due("write the hottest", desk.write(5, 99, NONE), 1);
    desk.pass(24);
    Checks.due("write a day later", desk.write(3, 42, NONE), 2);
    int[] due = {3, 42, 42, 1, 0, NONE, NONE, 0, 0, 0};
    for (int what = 0; what < due.length; what++) {
      Checks.due("of a new letter " + what, desk.ofLetter(2, what), due[what]);
    }
    Checks.due("letters", desk.count(2), 3);
    Checks.due("its drawer", desk.ofDrawer(3, 0), 1);
    Checks.due("write in a locked drawer", desk.turn(3) + desk.write(3, 1, NONE), 1 + 3);
    for (int mood : new int[] {-1, 6, Integer.MIN_VALUE, Integer.MAX_VALUE}) {
      Checks.due("no such mood", desk.write(mood, 1, NONE), NO_SUCH);
    }
    for (int heat : new int[] {-1, 100, Integer.MIN_VALUE, Integer.MAX_VALUE}) {
      Checks.due("no such heat", desk.write(0, heat, NONE), BAD_VALUE);
    }
    for (int answers : new int[] {-1, -5, -7, 4, 29, 30, Integer.MIN_VALUE, Integer.MAX_VALUE}) {
      Checks.due("no such letter to answer", desk.write(0, 1, answers), NO_SUCH);
    }
    Checks.due("answers one in a drawer", desk.write(0, 1, 0), NOT_POSSIBLE);
    desk.burn(0);
    Checks.due("answers a burnt one", desk.write(0, 1, 0), NOT_POSSIBLE);
    Checks.due("letters are as they were", desk.count(2), 4);
  }

  private static void writeInFullDrawersAndDesk() {
    MoodDrawers desk = new MoodDrawers();
    for (int letter = 0; letter < 8; letter++) {
      Checks.due("fill a drawer", desk.write(2, letter, NONE), letter);
    }
    Checks.due("a ninth", desk.write(2, 1, NONE), TOO_MANY);
    Checks.due("burning makes room", desk.burn(3), 3);
    Checks.due("write again", desk.write(2, 1, NONE), 8);
    Checks.due("a ninth again", desk.write(2, 1, NONE), TOO_MANY);
    desk.rest(2, 0);
    Checks.due("sending makes room", desk.pass(18), 8);
    Checks.due("answers a sent one", desk.write(2, 1, 8), 9);
    for (int letter = 10; letter < 30; letter++) {
      Checks.due("fill the desk", desk.write(letter % 6, letter, NONE), letter);
    }
    Checks.due("one too many", desk.write(0, 1, NONE), TOO_MANY);
    Checks.due("one too many, though another is burnt", desk.burn(29), 29);
    Checks.due("still one too many", desk.write(5, 1, NONE), TOO_MANY);
    Checks.due("the last one is a letter", desk.ofLetter(29, 4), 2);
    Checks.due("no letter behind it", desk.ofLetter(30, 4), NO_SUCH);
    Checks.due("sets reach to the last one", desk.letters(2), 1L << 3 | 1L << 29);
  }

  private static void writeErrorsInOrder() {
    MoodDrawers desk = new MoodDrawers();
    for (int letter = 0; letter < 8; letter++) {
      desk.write(0, 1, NONE);
    }
    Checks.due("no mood is ahead of heat", desk.write(6, 100, NONE), NO_SUCH);
    Checks.due("no letter is ahead of heat", desk.write(0, 100, 8), NO_SUCH);
    Checks.due("heat is ahead of a full drawer", desk.write(0, 100, 0), BAD_VALUE);
    Checks.due("a full drawer is ahead of what was not sent", desk.write(0, 1, 0), TOO_MANY);
    Checks.due("what was not sent", desk.write(1, 1, 0), NOT_POSSIBLE);
    Checks.due("only eight changes, six of them kept", desk.count(11), 6);
  }

  private static void turn() {
    MoodDrawers desk = new MoodDrawers();
    for (int mood = 0; mood < 6; mood++) {
      Checks.due("lock", desk.turn(mood), 1);
      Checks.due("it is locked", desk.ofDrawer(mood, 1), 1);
      Checks.due("locked ones", desk.count(6), mood + 1);
    }
    Checks.due("unlock", desk.turn(4), 0);
    Checks.due("it is not locked", desk.ofDrawer(4, 1), 0);
    Checks.due("one locked less", desk.count(6), 5);
    for (int mood : new int[] {-1, 6, Integer.MIN_VALUE, Integer.MAX_VALUE}) {
      Checks.due("no such drawer to turn", desk.turn(mood), NO_SUCH);
    }
  }

  private static void rest() {
    MoodDrawers desk = new MoodDrawers();
    Checks.due("rest", desk.rest(0, 30), 2);
    Checks.due("rest again", desk.rest(0, 0), 30);
    Checks.due("rest of another", desk.rest(5, 1), 2);
    for (int days : new int[] {-1, 31, Integer.MIN_VALUE, Integer.MAX_VALUE}) {
      Checks.due("rest out of range", desk.rest(0, days), BAD_VALUE);
    }
    for (int mood : new int[] {-1, 6, Integer.MIN_VALUE, Integer.MAX_VALUE}) {
      Checks.due("no such drawer to rest", desk.rest(mood, 31), NO_SUCH);
    }
    Checks.due("rest is 0", desk.ofDrawer(0, 2), 0);
    desk.write(0, 1, NONE);
    desk.write(5, 1, NONE);
    desk.write(4, 1, NONE);
    Checks.due("rest 0 goes on the day itself", desk.pass(24), 1);
    Checks.due("rest 1 goes on the next", desk.pass(24), 1);
    Checks.due("rest 2 goes on the next but one", desk.pass(24), 1);
    Checks.due("all sent", desk.letters(1), 7);
  }

  private static void hours() {
    MoodDrawers desk = new MoodDrawers();
    Checks.due("hours", desk.hours(1, 0, 23), 0);
    Checks.due("unlocked at", desk.ofDrawer(1, 3), 0);
    Checks.due("locked at", desk.ofDrawer(1, 4), 23);
    Checks.due("other hours", desk.hours(1, 23, 0), 1);
    Checks.due("unlocked at then", desk.ofDrawer(1, 3), 23);
    Checks.due("locked at then", desk.ofDrawer(1, 4), 0);
    for (int hour : new int[] {-1, -5, -7, 24, Integer.MIN_VALUE, Integer.MAX_VALUE}) {
      Checks.due("no such hour to unlock", desk.hours(1, hour, 1), BAD_VALUE);
      Checks.due("no such hour to lock", desk.hours(1, 1, hour), BAD_VALUE);
    }
    Checks.due("no hour to lock", desk.hours(1, 1, NONE), BAD_VALUE);
    Checks.due("the same hours", desk.hours(1, 7, 7), BAD_VALUE);
    for (int mood : new int[] {-1, 6, Integer.MIN_VALUE, Integer.MAX_VALUE}) {
      Checks.due("no such drawer with hours", desk.hours(mood, 7, 7), NO_SUCH);
    }
    Checks.due("hours are as they were", desk.ofDrawer(1, 3), 23);
    Checks.due("taken away, whatever locks is", desk.hours(1, NONE, Integer.MAX_VALUE), 1);
    Checks.due("not unlocked by an hour", desk.ofDrawer(1, 3), NONE);
    Checks.due("not locked by an hour", desk.ofDrawer(1, 4), NONE);
    Checks.due("taken away again", desk.hours(1, NONE, 5), 0);
    Checks.due("not locked by an hour again", desk.ofDrawer(1, 4), NONE);
    Checks.due("taken away twice", desk.hours(1, NONE, NONE), 0);
    Checks.due("hours leave the key alone", desk.ofDrawer(1, 1), 0);
  }

  private static void hoursTurnKeys() {
    MoodDrawers desk = new MoodDrawers();
    desk.hours(0, 5, 2);
    desk.hours(1, 23, 0);
    Checks.due("pass the hour 0", desk.pass(1), 0);
    Checks.due("locked by the hour 0", desk.ofDrawer(1, 1), 1);
    Checks.due("pass the hour 1", desk.pass(1), 0);
    Checks.due("the hour 2 has not passed", desk.ofDrawer(0, 1), 0);
    Checks.due("pass the hour 2", desk.pass(1), 0);
    Checks.due("locked by the hour 2", desk.ofDrawer(0, 1), 1);
    Checks.due("unlocked by hand", desk.turn(0), 0);
    Checks.due("locked by hand", desk.turn(0), 1);
    desk.pass(2);
    Checks.due("the hour 5 has not passed", desk.ofDrawer(0, 1), 1);
    desk.pass(1);
    Checks.due("unlocked by the hour 5", desk.ofDrawer(0, 1), 0);
    desk.pass(17);
    Checks.due("the hour 23 has not passed", desk.ofDrawer(1, 1), 1);
    desk.pass(1);
    Checks.due("unlocked by the hour 23", desk.ofDrawer(1, 1), 0);
    desk.pass(1);
    Checks.due("locked by the next hour 0", desk.ofDrawer(1, 1), 1);
    Checks.due("the next day", desk.count(0), 1);
    Checks.due("its hour 1", desk.count(1), 1);
  }

  private static void burn() {
    MoodDrawers desk = new MoodDrawers();
    desk.write(0, 50, NONE);
    desk.write(0, 9, NONE);
    desk.write(1, 1, NONE);
    desk.pass(48);
    Checks.due("burn: its heat now", desk.burn(0), 40);
    Checks.due("burnt", desk.ofLetter(0, 4), 2);
    Checks.due("burn: its heat is not below 0", desk.burn(1), 0);
    Checks.due("burn a burnt one", desk.burn(0), NOT_POSSIBLE);
    desk.pass(24);
    Checks.due("a burnt one cools on", desk.ofLetter(0, 2), 35);
    Checks.due("a burnt one is not sent", desk.count(4), 1);
    Checks.due("burn a sent one", desk.burn(2), NOT_POSSIBLE);
    Checks.due("write one more", desk.write(1, 7, 2), 3);
    Checks.due("lock it", desk.turn(1), 1);
    Checks.due("burn in a locked drawer", desk.burn(3), NOT_POSSIBLE);
    Checks.due("it lies there", desk.ofLetter(3, 4), 0);
    Checks.due("unlock it", desk.turn(1), 0);
    Checks.due("burn at last", desk.burn(3), 7);
    for (int letter : new int[] {-1, NONE, 4, 30, Integer.MIN_VALUE, Integer.MAX_VALUE}) {
      Checks.due("burn no letter", desk.burn(letter), NO_SUCH);
    }
    Checks.due("burnt ones", desk.letters(2), 1 | 2 | 8);
  }

  private static void pass() {
    MoodDrawers desk = new MoodDrawers();
    for (int hours : new int[] {0, -1, 241, Integer.MIN_VALUE, Integer.MAX_VALUE}) {
      Checks.due("hours out of range", desk.pass(hours), BAD_VALUE);
    }
    Checks.due("no hour has passed", desk.count(1), 0);
    Checks.due("pass", desk.pass(1), 0);
    Checks.due("the hour 1", desk.count(1), 1);
    Checks.due("pass up to the last hour", desk.pass(22), 0);
    Checks.due("the hour 23", desk.count(1), 23);
    Checks.due("the day 0", desk.count(0), 0);
    Checks.due("pass into the next day", desk.pass(1), 0);
    Checks.due("the hour 0", desk.count(1), 0);
    Checks.due("the day 1", desk.count(0), 1);
    Checks.due("pass the most", desk.pass(240), 0);
    Checks.due("the day 11", desk.count(0), 11);
  }

  private static void passSends() {
    MoodDrawers desk = new MoodDrawers();
    desk.write(3, 40, NONE);
    desk.write(0, 41, NONE);
    desk.write(3, 0, NONE);
    Checks.due("ahead of the post of the day 2", desk.pass(48 + 17), 0);
    Checks.due("the post of the day 2", desk.pass(1), 2);
    Checks.due("those that rested and are cool", desk.letters(1), 1 | 4);
    Checks.due("the day they were sent", desk.ofLetter(0, 5), 2);
    Checks.due("the heat as it was then", desk.ofLetter(0, 2), 30);
    Checks.due("one too hot by 1", desk.ofLetter(1, 4), 0);
    Checks.due("the post of the day 3", desk.pass(24), 1);
    Checks.due("heat of a sent one stays", desk.ofLetter(0, 2), 30);
    Checks.due("several posts send", desk.write(1, 0, NONE), 3);
    desk.write(2, 60, NONE);
    Checks.due("in one call", desk.pass(240), 2);
    Checks.due("the first one's day", desk.ofLetter(3, 5), 5);
    Checks.due("the second one's day", desk.ofLetter(4, 5), 9);
  }

  private static void passLooksAtLocksBehindTheHours() {
    MoodDrawers desk = new MoodDrawers();
    for (int mood = 0; mood < 3; mood++) {
      desk.rest(mood, 0);
      desk.write(mood, 0, NONE);
    }
    desk.hours(0, 1, 17);
    desk.hours(1, 17, 1);
    desk.turn(1);
    desk.turn(2);
    Checks.due("the post behind the hours", desk.pass(18), 1);
    Checks.due("locked, unlocked, locked by hand", desk.letters(1), 2);
    desk.turn(2);
    desk.hours(0, 16, 17);
    Checks.due("the next post", desk.pass(24), 1);
    Checks.due("locked at the very hour of the post", desk.ofLetter(0, 4), 0);
    desk.hours(0, 17, 18);
    Checks.due("unlocked at the very hour of the post", desk.pass(24), 1);
  }

  private static void passUpToTheLastDay() {
    MoodDrawers desk = new MoodDrawers();
    Checks.passUntil(desk, 999, 0);
    desk.pass(22);
    Checks.due("one hour too far", desk.pass(2), NOT_POSSIBLE);
    Checks.due("far too far", desk.pass(240), NOT_POSSIBLE);
    Checks.due("out of range comes first", desk.pass(241), BAD_VALUE);
    Checks.due("the hour 22", desk.count(1), 22);
    Checks.due("the last hour that can be", desk.pass(1), 0);
    Checks.due("the day 999", desk.count(0), 999);
    Checks.due("the hour 23", desk.count(1), 23);
    Checks.due("no hour more", desk.pass(1), NOT_POSSIBLE);
    Checks.due("write on the last day", desk.write(0, 35, NONE), 0);
    Checks.due("what if has no last day", desk.goesIn(0), 1 + 24 + 18);
    Checks.due("best post has no last day", desk.bestPost(1, 1), 0);
    Checks.due("best post has no last day", desk.bestPost(2, 1), 1);
  }
}
