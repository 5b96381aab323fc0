/** The sentences of texts, and those that stand behind them: of the constants, and ahead of the what-ifs. */
final class TextsSentences {
  private static final int BAD_VALUE = MoodDrawers.BAD_VALUE;
  private static final int TOO_MANY = MoodDrawers.TOO_MANY;
  private static final int NOT_POSSIBLE = MoodDrawers.NOT_POSSIBLE;
  private static final int NONE = MoodDrawers.NONE;

  private TextsSentences() {
  }

  static void test() {
    atMost80();
    orderWrite();
    orderTurn();
    orderPass();
    orderBurn();
    orderHours();
    moodsAndNumbers();
    firstThatCannotStand();
    endsTooEarly();
    errorConstants();
    settingConstants();
    whatIfChangesNothing();
  }

  private static MoodDrawers withPad(String text) {
    MoodDrawers desk = new MoodDrawers();
    Checks.putText(desk, text);
    return desk;
  }

  private static void dueFaults(Sentence said, Object[][] faults) {
    for (Object[] fault : faults) {
      said.due("fault() of '" + fault[0] + "'", withPad((String) fault[0]).fault(), (Integer) fault[1]);
    }
  }

  private static void atMost80() {
    Sentence said = new Sentence("Texts", "The pad is a text of at most 80 characters, a row of orders");
    MoodDrawers desk = withPad("k1;".repeat(26) + "k");
    said.due("79 characters", desk.count(10), 79);
    said.due("two more", desk.put(Checks.code("2;")), TOO_MANY);
    said.due("the eightieth", desk.put(Checks.code("2")), 80);
    said.due("one more", desk.put(Checks.code(";")), TOO_MANY);
    said.due("80 characters", desk.count(10), 80);
    said.due("no fault", desk.fault(), NONE);
    said.due("27 orders in a row", desk.carryOut(), 27);
    said.due("k1, 26 times", desk.ofDrawer(1, 1), 0);
    said.due("k2, once", desk.ofDrawer(2, 1), 1);
    said.due("a single order", withPad("k1").carryOut(), 1);
  }

  private static void orderWrite() {
    Sentence said = new Sentence("Texts",
        "\"+\": write() a letter of a mood, with heat, that answers one, if that is told");
    MoodDrawers desk = withPad("+0:0;+5:99;+1:30;t66;+4:8^0");
    said.due("carryOut()", desk.carryOut(), 5);
    int[][] letters = {{0, 0, NONE}, {5, 99, NONE}, {1, 30, NONE}, {4, 8, 0}};
    for (int letter = 0; letter < letters.length; letter++) {
      said.due("mood of " + letter, desk.ofLetter(letter, 0), letters[letter][0]);
      said.due("heat of " + letter, desk.ofLetter(letter, 1), letters[letter][1]);
      said.due("what " + letter + " answers", desk.ofLetter(letter, 6), letters[letter][2]);
    }
    Checks.putText(desk, "+4:9");
    said.due("one that answers none again", desk.carryOut(), 1);
    said.due("what it answers", desk.ofLetter(4, 6), NONE);
    Object[][] refused = {{"+0:1^5", 5}, {"+0:1^99", 5}, {"+0:1^1", 5}};
    for (Object[] text : refused) {
      Checks.putText(desk, (String) text[0]);
      said.due("carryOut() of '" + text[0] + "'", desk.carryOut(), 0);
      said.due("letters", desk.count(2), (Integer) text[1]);
    }
  }

  private static void orderTurn() {
    Sentence said = new Sentence("Texts", "\"k\": turn() the key of a drawer");
    MoodDrawers desk = withPad("k0;k5;k3;k3");
    said.due("carryOut()", desk.carryOut(), 4);
    int[] due = {1, 0, 0, 0, 0, 1};
    for (int mood = 0; mood < due.length; mood++) {
      said.due("locked, mood " + mood, desk.ofDrawer(mood, 1), due[mood]);
    }
  }

  private static void orderPass() {
    Sentence said = new Sentence("Texts", "\"t\": pass() hours");
    MoodDrawers desk = withPad("t1;t99");
    said.due("carryOut()", desk.carryOut(), 2);
    said.due("the day", desk.count(0), 4);
    said.due("the hour", desk.count(1), 4);
    Checks.putText(desk, "t0;t1");
    said.due("no hours are refused", desk.carryOut(), 0);
    said.due("the hour as it was", desk.count(1), 4);
    MoodDrawers sending = withPad("+0:0;t65");
    sending.carryOut();
    said.due("none is sent", sending.count(4), 0);
    Checks.putText(sending, "t1");
    sending.carryOut();
    said.due("one is sent", sending.count(4), 1);
  }

  private static void orderBurn() {
    Sentence said = new Sentence("Texts", "\"b\": burn() a letter");
    MoodDrawers desk = Checks.fullDesk();
    Checks.putText(desk, "b0;b29;b10");
    said.due("carryOut()", desk.carryOut(), 3);
    said.due("burnt ones", desk.letters(2), 1 | 1 << 10 | 1 << 29);
    for (String text : new String[] {"b30", "b99", "b0", "k0;b1"}) {
      Checks.putText(desk, text);
      said.due("carryOut() of " + text, desk.carryOut(), text.startsWith("k") ? 1 : 0);
      said.due("burnt ones", desk.count(5), 3);
    }
  }

  private static void orderHours() {
    Sentence said = new Sentence("Texts", "\"u\": hours() of a drawer");
    MoodDrawers desk = withPad("u00-23;u523-0;u112-3");
    said.due("carryOut()", desk.carryOut(), 3);
    int[][] due = {{0, 0, 23}, {5, 23, 0}, {1, 12, 3}, {2, NONE, NONE}};
    for (int[] drawer : due) {
      said.due("unlocked at, mood " + drawer[0], desk.ofDrawer(drawer[0], 3), drawer[1]);
      said.due("locked at, mood " + drawer[0], desk.ofDrawer(drawer[0], 4), drawer[2]);
    }
    for (String text : new String[] {"u024-1", "u01-24", "u099-99", "u07-7"}) {
      Checks.putText(desk, text);
      said.due("carryOut() of " + text, desk.carryOut(), 0);
      said.due("unlocked at", desk.ofDrawer(0, 3), 0);
    }
  }

  private static void moodsAndNumbers() {
    Sentence said = new Sentence("Texts", "A mood is 0 to 5, a number 0 to 99, without leading zeros");
    for (int mood = 0; mood < 10; mood++) {
      said.due("mood " + mood + " of k", withPad("k" + mood).fault(), mood < 6 ? NONE : 1);
      said.due("mood " + mood + " of +", withPad("+" + mood + ":0").fault(), mood < 6 ? NONE : 1);
      said.due("mood " + mood + " of u", withPad("u" + mood + "0-1").fault(), mood < 6 ? NONE : 1);
    }
    for (int number = 0; number < 120; number++) {
      said.due("t" + number, withPad("t" + number).fault(), number < 100 ? NONE : 3);
      said.due("b" + number, withPad("b" + number).fault(), number < 100 ? NONE : 3);
      said.due("u0" + number + "-0", withPad("u0" + number + "-0").fault(), number < 100 ? NONE : 4);
      said.due("u00-" + number, withPad("u00-" + number).fault(), number < 100 ? NONE : 6);
      said.due("+0:" + number + "^0", withPad("+0:" + number + "^0").fault(), number < 100 ? NONE : 5);
      said.due("+0:0^" + number, withPad("+0:0^" + number).fault(), number < 100 ? NONE : 7);
    }
    dueFaults(said, new Object[][] {{"t00", 2}, {"t05", 2}, {"t099", 2}, {"b01", 2}, {"+0:00", 4}, {"+0:07^1", 4},
        {"+0:7^01", 6}, {"u001-2", 3}, {"u01-02", 5}, {"k00", 2}, {"k10", 2}, {"t10", NONE}, {"t-1", 1}, {"t+1", 1}});
  }

  private static void firstThatCannotStand() {
    Sentence said = new Sentence("Texts",
        "The fault is the index of the first character that cannot stand at its place when the text is read from "
        + "left to right (also of a digit by which a number would be above 99)");
    dueFaults(said, new Object[][] {
        {"!", 0}, {"~", 0}, {"5", 0}, {":", 0}, {"^", 0}, {"-", 0}, {";", 0}, {"K1", 0}, {"xk1", 0}, {";k1", 0},
        {"k!", 1}, {"k/", 1}, {"k6", 1}, {"kk1", 1}, {"k1:", 2}, {"k1k2", 2}, {"k1;;k2", 3}, {"k1;x;y", 3},
        {"k1;k2;!", 6},
        {"+!", 1}, {"+6:1", 1}, {"+1!", 2}, {"+1;", 2}, {"+1:!", 3}, {"+1:^1", 3}, {"+1:2:", 4}, {"+1:2-", 4},
        {"+1:2^!", 5}, {"+1:2^;", 5}, {"+1:2^3^4", 6}, {"+1:2^3!", 6},
        {"t!", 1}, {"t/", 1}, {"t:", 1}, {"t1!", 2}, {"t1^2", 2}, {"b;", 1}, {"b12!", 3}, {"b1-2", 2},
        {"u!", 1}, {"u6", 1}, {"u1!", 2}, {"u1-", 2}, {"u12!", 3}, {"u12;", 3}, {"u12-!", 4}, {"u12-3-", 5},
        {"t100", 3}, {"t999", 3}, {"b100", 3}, {"+1:100", 5}, {"+1:2^100", 7}, {"u1100-2", 4}, {"u12-100", 6},
        {"k0;t100;x", 6}, {"k0;".repeat(26) + "k6", 79}, {"!" + "k0;".repeat(26), 0}});
  }

  private static void endsTooEarly() {
    Sentence said = new Sentence("Texts",
        "if there is none and the text ends too early (also if it is empty), it is the length of the text");
    said.due("fault() of an empty pad", new MoodDrawers().fault(), 0);
    String[] early = {"+", "+1", "+1:", "+1:2^", "+1:23^", "k", "t", "b", "u", "u1", "u12", "u12-", "u112", "u112-",
        "k0;", "t1;", "b1;", "u12-3;", "+1:2;", "+1:2^3;", "k0;k", "k0;+1:2^"};
    for (String text : early) {
      said.due("fault() of '" + text + "'", withPad(text).fault(), text.length());
    }
    said.due("fault() of 80 characters", withPad("t10;".repeat(20)).fault(), 80);
    MoodDrawers wiped = withPad("x");
    wiped.wipe();
    said.due("fault() of a pad wiped empty", wiped.fault(), 0);
  }

  private static void errorConstants() {
    Sentence said = new Sentence("The interface", "The constants: `NO_SUCH = -1, BAD_VALUE = -2, BAD_TEXT = -3, "
        + "TOO_MANY = -4, NOT_POSSIBLE = -5, NONE = -6`: Error codes, and NONE: there is none");
    said.due("NO_SUCH", MoodDrawers.NO_SUCH, -1);
    said.due("BAD_VALUE", MoodDrawers.BAD_VALUE, -2);
    said.due("BAD_TEXT", MoodDrawers.BAD_TEXT, -3);
    said.due("TOO_MANY", MoodDrawers.TOO_MANY, -4);
    said.due("NOT_POSSIBLE", MoodDrawers.NOT_POSSIBLE, -5);
    said.due("NONE", MoodDrawers.NONE, -6);
  }

  private static void settingConstants() {
    Sentence said = new Sentence("The interface", "`POST = 0, COOL = 1, COOLING = 2`: Settings");
    said.due("POST", MoodDrawers.POST, 0);
    said.due("COOL", MoodDrawers.COOL, 1);
    said.due("COOLING", MoodDrawers.COOLING, 2);
    said.due("the setting ahead of them", new MoodDrawers().set(-1, 0), BAD_VALUE);
    said.due("the setting behind them", new MoodDrawers().set(3, 0), BAD_VALUE);
  }

  private static void whatIfChangesNothing() {
    Sentence said = new Sentence("The interface", "nothing changes (the bound of days does not matter)");
    MoodDrawers desk = new MoodDrawers();
    desk.rest(0, 0);
    desk.write(0, 20, NONE);
    desk.pass(24);
    Checks.passUntil(desk, 999, 22);
    desk.write(1, 30, 0);
    desk.write(2, 50, NONE);
    desk.hours(2, 5, 3);
    desk.turn(2);
    String before = Told.all(desk);
    said.due("goesIn(1), 2 days later", desk.goesIn(1), 2 + 24 + 18);
    said.due("goesIn(2), 4 days later", desk.goesIn(2), 2 + 3 * 24 + 18);
    said.due("bestPost(1, 1)", desk.bestPost(1, 1), 0);
    said.due("bestPost(2, 1)", desk.bestPost(2, 1), 1);
    said.due("bestPost(20, 1)", desk.bestPost(20, 1), 2);
    said.due("bestPost(20, 0)", desk.bestPost(20, 0), 0);
    said.due("mostRegretted()", desk.mostRegretted(), 0);
    said.due("ifSent(0, 1)", desk.ifSent(0, 1), 20 + 15);
    said.dueSame("what is told behind them", Told.all(desk), before);
    said.due("no hour can pass over the last day", desk.pass(3), NOT_POSSIBLE);
  }
}
