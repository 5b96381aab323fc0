/** The sentences of the promises 19 to 22: put, wipe, fault, carryOut. */
final class PadSentences {
  private static final int BAD_VALUE = MoodDrawers.BAD_VALUE;
  private static final int BAD_TEXT = MoodDrawers.BAD_TEXT;
  private static final int TOO_MANY = MoodDrawers.TOO_MANY;
  private static final int NOT_POSSIBLE = MoodDrawers.NOT_POSSIBLE;
  private static final int NONE = MoodDrawers.NONE;

  private PadSentences() {
  }

  static void test() {
    putAppends();
    putIsGivenANumber();
    putEndsByZeros();
    putLengths();
    putErrors();
    wipe();
    fault();
    carryOut();
    carryOutEmptiesThePad();
    carryOutIsOneChange();
    carryOutBadText();
  }

  private static void putAppends() {
    Sentence said = new Sentence("Promise 19", "Appends characters to the pad");
    MoodDrawers desk = new MoodDrawers();
    desk.put(Checks.code("u3"));
    desk.put(Checks.code("1"));
    desk.put(Checks.code("2-9;k1;k"));
    desk.put(Checks.code("2"));
    said.due("fault()", desk.fault(), NONE);
    said.due("carryOut()", desk.carryOut(), 3);
    said.due("unlocked at", desk.ofDrawer(3, 3), 12);
    said.due("locked at", desk.ofDrawer(3, 4), 9);
    said.due("k1", desk.ofDrawer(1, 1), 1);
    said.due("k2", desk.ofDrawer(2, 1), 1);
    said.due("from the beginning again", desk.put(Checks.code("k1")), 2);
    said.due("carryOut()", desk.carryOut(), 1);
    said.due("k1 again", desk.ofDrawer(1, 1), 0);
  }

  private static void putIsGivenANumber() {
    Sentence said = new Sentence("Promise 19",
        "They are given as a number: its lowest 8 bits are the last character, the next 8 bits the one before, "
        + "and so on");
    MoodDrawers desk = new MoodDrawers();
    said.due("k5", desk.put(0x6B35L), 2);
    said.due("carryOut()", desk.carryOut(), 1);
    said.due("k5 locks", desk.ofDrawer(5, 1), 1);
    MoodDrawers eight = new MoodDrawers();
    said.due("+4:97^01", eight.put(0x2B343A39375E3031L), 8);
    said.due("its fault", eight.fault(), 7);
    eight.wipe();
    said.due("u512-10;", eight.put(0x753531322D31303BL), 8);
    said.due("ends too early", eight.fault(), 8);
    said.due("k0", eight.put(0x6B30L), 10);
    said.due("carryOut()", eight.carryOut(), 2);
    said.due("unlocked at", eight.ofDrawer(5, 3), 12);
    said.due("locked at", eight.ofDrawer(5, 4), 10);
  }

  private static void putEndsByZeros() {
    Sentence said = new Sentence("Promise 19",
        "8 bits that are 0 mean that there are no more characters, and everything above them has to be 0, too");
    for (int characters = 1; characters < 8; characters++) {
      long code = 0x4142434445464748L >>> 64 - 8 * characters;
      said.due(characters + " characters", new MoodDrawers().put(code), characters);
      for (int bit = 8 * characters + 8; bit < 64; bit++) {
        said.due("the bit " + bit + " above " + characters, new MoodDrawers().put(code | 1L << bit), BAD_VALUE);
      }
    }
    said.due("zeros below", new MoodDrawers().put(0x4100L), BAD_VALUE);
    said.due("zeros between", new MoodDrawers().put(0x4142430045464748L), BAD_VALUE);
  }

  private static void putLengths() {
    Sentence range = new Sentence("Promise 19", "`characters`: 1 to 8 characters");
    Sentence returns = new Sentence("Promise 19", "Returns the length of the pad then");
    MoodDrawers desk = new MoodDrawers();
    range.due("no character", desk.put(0), BAD_VALUE);
    int length = 0;
    for (int characters = 1; characters <= 8; characters++) {
      length += characters;
      long code = 0x2122237B7C7D7E30L >>> 64 - 8 * characters;
      range.due(characters + " characters", desk.put(code), length);
      returns.due("the length of the pad", desk.count(10), length);
    }
    for (length = 44; length <= 80; length += 8) {
      returns.due("8 characters more", desk.put(0x4142434445464748L), length);
    }
    returns.due("up to 80", desk.put(0x41424344L), 80);
  }

  private static void putErrors() {
    Sentence badValue = new Sentence("Promise 19",
        "BAD_VALUE if there is no character, a code is not 33 to 126, or a bit above 8 bits that are 0 is not 0");
    Sentence tooMany = new Sentence("Promise 19", "TOO_MANY if the pad would be longer than 80");
    badValue.due("put(0)", new MoodDrawers().put(0), BAD_VALUE);
    badValue.due("put(-1)", new MoodDrawers().put(-1), BAD_VALUE);
    badValue.due("the lowest number", new MoodDrawers().put(Long.MIN_VALUE), BAD_VALUE);
    badValue.due("the highest number", new MoodDrawers().put(Long.MAX_VALUE), BAD_VALUE);
    for (int place = 0; place < 8; place++) {
      long others = 0x4141414141414141L & ~(0xFFL << 8 * place);
      for (long code = 0; code < 256; code++) {
        boolean good = code >= 33 && code <= 126;
        long due = good ? 8 : place == 7 && code == 0 ? 7 : BAD_VALUE;
        long characters = others | code << 8 * place;
        badValue.due("the code " + code + ", " + place + " from the end", new MoodDrawers().put(characters), due);
      }
    }
    for (int characters = 1; characters <= 8; characters++) {
      MoodDrawers desk = new MoodDrawers();
      long code = 0x4142434445464748L >>> 64 - 8 * characters;
      Checks.putText(desk, "x".repeat(81 - characters));
      tooMany.due("81 characters by " + characters, desk.put(code), TOO_MANY);
      tooMany.due("the length as it was", desk.count(10), 81 - characters);
      desk.wipe();
      Checks.putText(desk, "x".repeat(80 - characters));
      tooMany.due("80 characters by " + characters, desk.put(code), 80);
      tooMany.due("one more", desk.put(0x41L), TOO_MANY);
    }
  }

  private static void wipe() {
    Sentence said = new Sentence("Promise 20", "Empties the pad, and returns the length that it had");
    MoodDrawers desk = new MoodDrawers();
    said.due("an empty one", desk.wipe(), 0);
    for (int length : new int[] {1, 8, 79, 80}) {
      Checks.putText(desk, "k".repeat(length));
      said.due("one of " + length, desk.wipe(), length);
      said.due("the length then", desk.count(10), 0);
      said.due("the fault of an empty one", desk.fault(), 0);
      said.due("an empty one again", desk.wipe(), 0);
    }
    said.due("changes", desk.count(11), 0);
    Checks.putText(desk, "k1");
    said.due("nothing is left of the text", desk.carryOut(), 1);
    said.due("k1", desk.ofDrawer(1, 1), 1);
  }

  private static void fault() {
    Sentence said = new Sentence("Promise 21", "Returns the fault of the pad, NONE if there is none");
    MoodDrawers desk = new MoodDrawers();
    said.due("of the empty pad", desk.fault(), 0);
    Object[][] due = {{"k", 1}, {"3", NONE}, {";", 3}, {"t9", NONE}, {"9", NONE}, {"9", 6}, {";k1", 6}};
    for (Object[] put : due) {
      Checks.putText(desk, (String) put[0]);
      said.due("behind '" + put[0] + "'", desk.fault(), (Integer) put[1]);
      said.due("again", desk.fault(), (Integer) put[1]);
    }
    said.due("the length as it was", desk.count(10), 10);
    said.due("changes", desk.count(11), 0);
    desk.wipe();
    Checks.putText(desk, "k0;".repeat(26) + "k0");
    said.due("of 80 characters", desk.fault(), NONE);
  }

  private static void carryOut() {
    Sentence returns = new Sentence("Promise 22", "Returns how many orders were carried out");
    Object[][] due = {{"k0", 1}, {"k0;k0", 2}, {"t0", 0}, {"t1;t0", 1}, {"t0;t1", 0}, {"b0", 0}, {"+0:0;b0;b0;b0", 2},
        {"+0:0;+0:0^0;k0", 1}, {"u09-9;k0", 0}, {"u024-9;k0", 0}, {"u09-24;k0", 0}, {"u09-8;k0", 2}, {"+0:0^1", 0},
        {"k0;".repeat(26) + "k0", 27}, {"k0;".repeat(26) + "b0", 26}, {"k5;+5:0;b0;k5;b0", 2}};
    for (Object[] text : due) {
      MoodDrawers desk = new MoodDrawers();
      Checks.putText(desk, (String) text[0]);
      returns.due("carryOut() of '" + text[0] + "'", desk.carryOut(), (Integer) text[1]);
    }
    MoodDrawers late = new MoodDrawers();
    Checks.passUntil(late, 999, 0);
    Checks.putText(late, "t20;t4;t3;t1");
    returns.due("up to an hour too far", late.carryOut(), 1);
    Checks.putText(late, "t3;t1");
    returns.due("up to the last hour", late.carryOut(), 1);
    MoodDrawers full = new MoodDrawers();
    int[] dueOfMood = {8, 8, 8, 6, 0, 0};
    for (int mood = 0; mood < 6; mood++) {
      Checks.putText(full, ("+" + mood + ":0;").repeat(8) + "+" + mood + ":0;k0;k0;k0");
      returns.due("up to the ninth letter in a drawer, up to 30 letters", full.carryOut(), dueOfMood[mood]);
    }
  }

  private static void carryOutEmptiesThePad() {
    Sentence said = new Sentence("Promise 22",
        "Carries the orders of the pad out, one after the other, up to the first one that returns an error, and "
        + "empties the pad");
    MoodDrawers desk = new MoodDrawers();
    Checks.putText(desk, "+0:7;t66;+1:9^0;k1;b1;k2");
    said.due("up to a letter in a locked drawer", desk.carryOut(), 4);
    said.due("the letter 0 is sent", desk.ofLetter(0, 4), 1);
    said.due("the letter 1 answers it", desk.ofLetter(1, 6), 0);
    said.due("and lies there", desk.ofLetter(1, 4), 0);
    said.due("k1", desk.ofDrawer(1, 1), 1);
    said.due("k2 is behind the error", desk.ofDrawer(2, 1), 0);
    said.due("the pad is empty", desk.count(10), 0);
    said.due("and cannot be carried out again", desk.carryOut(), BAD_TEXT);
    Checks.putText(desk, "k3;k4");
    said.due("without an error", desk.carryOut(), 2);
    said.due("the pad is empty again", desk.count(10), 0);
    Checks.putText(desk, "t0");
    said.due("with an error at once", desk.carryOut(), 0);
    said.due("the pad is empty, too", desk.count(10), 0);
  }

  private static void carryOutIsOneChange() {
    Sentence said = new Sentence("Promise 22",
        "This is a change (one, with all of them; also if none is carried out)");
    for (String text : new String[] {"k0", "k0;k1;k2;k3;k4;k5;+0:0;t24", "t0;k0", "b0", "k0;b0"}) {
      MoodDrawers desk = new MoodDrawers();
      desk.write(0, 9, NONE);
      desk.burn(0);
      String before = Told.state(desk);
      Checks.putText(desk, text);
      desk.carryOut();
      said.dueOneChange(desk, before, 2);
      said.due("the pad does not come back", desk.count(10), 0);
    }
  }

  private static void carryOutBadText() {
    Sentence said = new Sentence("Promise 22", "BAD_TEXT if the pad has a fault (then it stays)");
    MoodDrawers desk = new MoodDrawers();
    said.due("an empty pad", desk.carryOut(), BAD_TEXT);
    for (String text : new String[] {"x", "k", "k0;", "k0;k6", "k0;t100", "k0;k1;u01-2", "k0;".repeat(26) + "k;"}) {
      boolean good = text.endsWith("2");
      Checks.putText(desk, text);
      int locked = desk.count(6);
      said.due("carryOut() of '" + text + "'", desk.carryOut(), good ? 3 : BAD_TEXT);
      said.due("locked ones", desk.count(6), good ? 2 : locked);
      said.due("changes", desk.count(11), good || locked > 0 ? 1 : 0);
      said.due("the length then", desk.count(10), good ? 0 : text.length());
      desk.wipe();
    }
    Checks.putText(desk, "k");
    said.due("a text that ends too early", desk.carryOut(), BAD_TEXT);
    Checks.putText(desk, "5");
    said.due("the text that stayed, gone on with", desk.carryOut(), 1);
    said.due("k5", desk.ofDrawer(5, 1), 1);
    desk.undo();
    said.due("two changes, one of them undone", desk.undo(), 0);
    said.due("no more", desk.undo(), NOT_POSSIBLE);
  }
}
