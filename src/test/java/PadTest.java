/** Promises 19 to 22: put, wipe, fault, carryOut. */
public final class PadTest {
  private static final int BAD_VALUE = MoodDrawers.BAD_VALUE;
  private static final int BAD_TEXT = MoodDrawers.BAD_TEXT;
  private static final int TOO_MANY = MoodDrawers.TOO_MANY;
  private static final int NONE = MoodDrawers.NONE;

  public static void main(String[] args) {
    put();
    putUpTo80();
    wipe();
    goodTexts();
    faults();
    carryOut();
    carryOutEachOrder();
    carryOutUpToAnError();
    carryOutIsOneChange();
    Checks.end("PadTest");
  }

  private static void put() {
    MoodDrawers desk = new MoodDrawers();
    long[] wrong = {0, -1, Long.MIN_VALUE, Long.MAX_VALUE, 32, 127, 128, 255, 1, 0x4100, 0x410041, 0x4100000000000000L,
        0x4141004141414141L, 0x4141414141414120L, 0x2041414141414141L, 0x7F41414141414141L, 0x8041414141414141L,
        0xFF41L, 0x4100000041L};
    for (long characters : wrong) {
      Checks.due("put(" + characters + ")", desk.put(characters), BAD_VALUE);
    }
    Checks.due("the pad is empty", desk.count(10), 0);
    Checks.due("the lowest character", desk.put(33), 1);
    Checks.due("the highest character", desk.put(126), 2);
    Checks.due("eight characters", desk.put(0x7E2121212121217EL), 10);
    Checks.due("seven characters", desk.put(0x21212121212121L), 17);
    Checks.due("the length", desk.count(10), 17);
    Checks.due("put is no change", desk.count(11), 0);
    MoodDrawers order = new MoodDrawers();
    order.put(Checks.code("k"));
    order.put(Checks.code("4;u"));
    order.put(Checks.code("57-12"));
    Checks.due("they stand in their order", order.carryOut(), 2);
    Checks.due("k4", order.ofDrawer(4, 1), 1);
    Checks.due("u57-12", order.ofDrawer(5, 3), 7);
    Checks.due("u57-12", order.ofDrawer(5, 4), 12);
  }

  private static void putUpTo80() {
    MoodDrawers desk = new MoodDrawers();
    Checks.due("79 characters", Checks.putText(desk, "t1;".repeat(26) + "k"), 79);
    Checks.due("two more", desk.put(Checks.code("00")), TOO_MANY);
    Checks.due("two bad ones more", desk.put(0x2020), BAD_VALUE);
    Checks.due("it stays 79", desk.count(10), 79);
    Checks.due("one more", desk.put(Checks.code("3")), 80);
    Checks.due("yet one more", desk.put(Checks.code("3")), TOO_MANY);
    Checks.due("eight more", desk.put(Checks.code("33333333")), TOO_MANY);
    Checks.due("no fault in 80 characters", desk.fault(), NONE);
    Checks.due("all orders of 80 characters", desk.carryOut(), 27);
    Checks.due("26 hours", 24 * desk.count(0) + desk.count(1), 26);
    Checks.due("and a key", desk.ofDrawer(3, 1), 1);
    Checks.due("80 characters again", Checks.putText(desk, "k0;".repeat(26) + "k0"), 80);
    Checks.due("26 and one orders", desk.carryOut(), 27);
    Checks.due("k0 27 times", desk.ofDrawer(0, 1), 1);
    Checks.due("80 that end too early", Checks.putText(desk, "k0;".repeat(26) + "k;"), 80);
    Checks.due("a fault at the last", desk.fault(), 79);
    desk.wipe();
    Checks.putText(desk, "t10;".repeat(20));
    Checks.due("ends too early, at 80", desk.fault(), 80);
  }

  private static void wipe() {
    MoodDrawers desk = new MoodDrawers();
    Checks.due("wipe the empty pad", desk.wipe(), 0);
    Checks.putText(desk, "no_orders");
    Checks.due("wipe", desk.wipe(), 9);
    Checks.due("empty", desk.count(10), 0);
    Checks.due("no change", desk.count(11), 0);
    Checks.due("its text is gone", desk.put(Checks.code("k1")), 2);
    Checks.due("no fault", desk.fault(), NONE);
  }

  private static void goodTexts() {
    String[] texts = {"k0", "k5", "t0", "t9", "t10", "t99", "b0", "b29", "b99", "+0:0", "+5:99", "+5:99^0", "+0:0^99",
        "u00-0", "u599-99", "u510-9", "u00-10", "k1;k1", "t0;k0", "+1:2^3;u12-3;b4;t5;k0", "k0;+0:0;k0"};
    for (String text : texts) {
      dueFault(text, NONE);
    }
  }

  private static void faults() {
    dueFault("", 0);
    Object[][] faults = {
        {"x", 0}, {";", 0}, {"0", 0}, {"K0", 0}, {"T1", 0}, {"-", 0}, {"^", 0}, {":", 0}, {"~", 0}, {"!", 0},
        {"k", 1}, {"k6", 1}, {"k9", 1}, {"k-", 1}, {"k;", 1}, {"kk", 1}, {"k00", 2}, {"k0k", 2}, {"k0:", 2},
        {"k0;", 3}, {"k0;;", 3}, {"k0;x", 3}, {"k0;k", 4}, {"k0;k6", 4}, {"k0;k5;", 6},
        {"t", 1}, {"t;", 1}, {"t-", 1}, {"t00", 2}, {"t01", 2}, {"t09;", 2}, {"t100", 3}, {"t999", 3}, {"t1;t991", 6},
        {"t1^", 2}, {"t1:", 2}, {"t12-", 3}, {"t1/", 2}, {"t/", 1}, {"t:", 1}, {"k/", 1},
        {"b", 1}, {"b00", 2}, {"b123", 3}, {"b1^1", 2}, {"bb", 1},
        {"+", 1}, {"+6", 1}, {"+:", 1}, {"+0", 2}, {"+00", 2}, {"+0;", 2}, {"+0:", 3}, {"+0:;", 3}, {"+0:^", 3},
        {"+0:00", 4}, {"+0:100", 5}, {"+0:5^", 5}, {"+0:5^;", 5}, {"+0:5^^", 5}, {"+0:5^05", 6}, {"+0:55^555", 8},
        {"+0:5^5^", 6}, {"+0:5:", 4}, {"+0:5-", 4}, {"+0:5;", 5},
        {"u", 1}, {"u6", 1}, {"u0", 2}, {"u0-", 2}, {"u0;", 2}, {"u00", 3}, {"u000", 3}, {"u00;", 3}, {"u0100", 4},
        {"u010", 4}, {"u00-", 4}, {"u00--", 4}, {"u00-;", 4}, {"u00-00", 5}, {"u00-100", 6}, {"u00-1-", 5},
        {"u00-1^", 5}, {"u0^", 2}, {"u01^", 3}};
    for (Object[] fault : faults) {
      dueFault((String) fault[0], (Integer) fault[1]);
    }
  }

  private static void dueFault(String text, int due) {
    MoodDrawers desk = new MoodDrawers();
    Checks.putText(desk, text);
    Checks.due("fault of '" + text + "'", desk.fault(), due);
    Checks.due("again, of '" + text + "'", desk.fault(), due);
    Checks.due("the pad stays '" + text + "'", desk.count(10), text.length());
    if (due != NONE) {
      Checks.due("carryOut of '" + text + "'", desk.carryOut(), BAD_TEXT);
      Checks.due("the pad still stays '" + text + "'", desk.count(10), text.length());
      Checks.due("no change by '" + text + "'", desk.count(11), 0);
    }
  }

  private static void carryOut() {
    MoodDrawers desk = new MoodDrawers();
    Checks.putText(desk, "k2;x");
    Checks.due("a fault behind a good order", desk.carryOut(), BAD_TEXT);
    Checks.due("nothing is carried out", desk.count(6), 0);
    Checks.due("the pad stays", desk.wipe(), 4);
    Checks.putText(desk, "k2");
    Checks.due("one order", desk.carryOut(), 1);
    Checks.due("k2", desk.ofDrawer(2, 1), 1);
    Checks.due("the pad is empty", desk.count(10), 0);
    Checks.due("the empty pad", desk.carryOut(), BAD_TEXT);
    Checks.due("one change", desk.count(11), 1);
  }

  private static void carryOutEachOrder() {
    MoodDrawers desk = new MoodDrawers();
    Checks.putText(desk, "+3:25;+4:7;t50;t16;+5:99^1;b2;u418-6;k0;u17-8");
    Checks.due("nine orders", desk.carryOut(), 9);
    Checks.due("two days", desk.count(0), 2);
    Checks.due("and some hours", desk.count(1), 18);
    int[][] letters = {{3, 25, 15, 0, 1, 2, NONE, 15, 0, 0}, {4, 7, 0, 0, 1, 2, NONE, 0, 1, 0},
        {5, 99, 99, 2, 2, NONE, 1, 0, 0, 1}};
    for (int letter = 0; letter < letters.length; letter++) {
      for (int what = 0; what < 10; what++) {
        Checks.due("ofLetter(" + letter + ", " + what + ")", desk.ofLetter(letter, what), letters[letter][what]);
      }
    }
    Checks.due("u418-6 unlocks", desk.ofDrawer(4, 3), 18);
    Checks.due("u418-6 locks", desk.ofDrawer(4, 4), 6);
    Checks.due("u17-8 unlocks", desk.ofDrawer(1, 3), 7);
    Checks.due("u17-8 locks", desk.ofDrawer(1, 4), 8);
    Checks.due("k0", desk.ofDrawer(0, 1), 1);
    Checks.putText(desk, "+5:10;+5:10^0");
    Checks.due("an order keeps nothing of the one before", desk.carryOut(), 2);
    Checks.due("answers none", desk.ofLetter(3, 6), NONE);
    Checks.due("answers one", desk.ofLetter(4, 6), 0);
    Checks.putText(desk, "+5:10^0;+5:10");
    Checks.due("nor the other way round", desk.carryOut(), 2);
    Checks.due("answers one", desk.ofLetter(5, 6), 0);
    Checks.due("answers none", desk.ofLetter(6, 6), NONE);
  }

  private static void carryOutUpToAnError() {
    dueCarriedOut("t0;k0", 0, 0);
    dueCarriedOut("k0;t0;k1", 1, 1);
    dueCarriedOut("k0;b0;k1", 1, 1);
    dueCarriedOut("k0;u024-1;k1", 1, 1);
    dueCarriedOut("k0;u01-24;k1", 1, 1);
    dueCarriedOut("k0;u03-3;k1", 1, 1);
    dueCarriedOut("k0;+0:1^0;k1", 1, 1);
    dueCarriedOut("k0;+0:1;+0:1^0;k1", 2, 1);
    dueCarriedOut("k0;+0:1;b0;k1", 2, 1);
    dueCarriedOut("+0:1;b0;b0;k1", 2, 0);
    dueCarriedOut("k0;k1;b99", 2, 2);
    dueCarriedOut("t99;t99;k3;t99;k4", 5, 2);
    dueCarriedOut("+0:0;+0:0;+0:0;+0:0;+0:0;+0:0;+0:0;+0:0;+0:0;k1", 8, 0);
    MoodDrawers late = new MoodDrawers();
    Checks.passUntil(late, 999, 0);
    Checks.putText(late, "t12;t12;k1");
    Checks.due("up to the last day", late.carryOut(), 1);
    Checks.due("half of it", late.count(1), 12);
  }

  private static void dueCarriedOut(String text, int orders, int locked) {
    MoodDrawers desk = new MoodDrawers();
    Checks.putText(desk, text);
    Checks.due("carryOut of " + text, desk.carryOut(), orders);
    Checks.due("locked by " + text, desk.count(6), locked);
    Checks.due("the pad is empty behind " + text, desk.count(10), 0);
    Checks.due("one change by " + text, desk.count(11), 1);
  }

  private static void carryOutIsOneChange() {
    MoodDrawers desk = new MoodDrawers();
    desk.write(0, 50, NONE);
    Checks.putText(desk, "k0;k1;k2;t99;+1:9;+1:8;k5");
    Checks.due("seven orders", desk.carryOut(), 7);
    Checks.due("two changes", desk.count(11), 2);
    Checks.putText(desk, "left");
    Checks.due("undo them all", desk.undo(), 1);
    Checks.due("no key is turned", desk.count(6), 0);
    Checks.due("no hour has passed", desk.count(0), 0);
    Checks.due("one letter", desk.count(2), 1);
    Checks.due("the pad is left", desk.count(10), 4);
  }
}
