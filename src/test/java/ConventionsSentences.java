/** The sentences of what a desk is, and of the conventions. */
final class ConventionsSentences {
  private static final int NO_SUCH = MoodDrawers.NO_SUCH;
  private static final int BAD_VALUE = MoodDrawers.BAD_VALUE;
  private static final int TOO_MANY = MoodDrawers.TOO_MANY;
  private static final int NOT_POSSIBLE = MoodDrawers.NOT_POSSIBLE;
  private static final int NONE = MoodDrawers.NONE;
  private static final int POST = MoodDrawers.POST;
  private static final int COOL = MoodDrawers.COOL;
  private static final int COOLING = MoodDrawers.COOLING;
  /** How many calls refused() knows. */
  private static final int REFUSED = 31;

  private ConventionsSentences() {
  }

  static void test() {
    upTo512Calls();
    errorCodes();
    errorsInOrder();
    errorsChangeNothing();
    noneIsNoError();
    noneBehindErrors();
    numberedFrom0();
    setsAreMasks();
    roundedDown();
  }

  private static void upTo512Calls() {
    Sentence said = new Sentence("What it is", "An object is used for at most 512 calls after it has been made");
    MoodDrawers keys = new MoodDrawers();
    for (int call = 1; call <= 512; call++) {
      said.due("turn, call " + call, keys.turn(5), call % 2);
    }
    MoodDrawers days = new MoodDrawers();
    for (int call = 1; call < 512; call++) {
      said.due("pass, call " + call, days.pass(46), 0);
    }
    said.due("the day, call 512", days.count(0), 511 * 46 / 24);
  }

  private static void errorCodes() {
    Sentence said = new Sentence("Terms", "A method that fails returns one of the error codes NO_SUCH (-1), "
        + "BAD_VALUE (-2), BAD_TEXT (-3), TOO_MANY (-4) and NOT_POSSIBLE (-5)");
    MoodDrawers desk = new MoodDrawers();
    said.due("turn(6)", desk.turn(6), -1);
    said.due("rest(0, 31)", desk.rest(0, 31), -2);
    said.due("carryOut() of an empty pad", desk.carryOut(), -3);
    Checks.write(desk, 0, 8);
    said.due("write a ninth letter", desk.write(0, 0, NONE), -4);
    desk.burn(0);
    said.due("goesIn of a burnt one", desk.goesIn(0), -5);
  }

  private static void errorsInOrder() {
    Sentence said = new Sentence("Terms",
        "it names its errors in the order in which they are checked, and the first one that applies is returned");
    MoodDrawers desk = new MoodDrawers();
    Checks.write(desk, 0, 8);
    said.due("write: mood, heat", desk.write(6, 100, NONE), NO_SUCH);
    said.due("write: answers, heat", desk.write(1, 100, 8), NO_SUCH);
    said.due("write: answers, full", desk.write(0, 0, 8), NO_SUCH);
    said.due("write: heat, full", desk.write(0, 100, NONE), BAD_VALUE);
    said.due("write: heat, not sent", desk.write(1, 100, 0), BAD_VALUE);
    said.due("write: full, not sent", desk.write(0, 0, 0), TOO_MANY);
    said.due("rest: drawer, days", desk.rest(6, 31), NO_SUCH);
    said.due("hours: drawer, hour", desk.hours(6, 24, 0), NO_SUCH);
    said.due("hours: drawer, the same", desk.hours(-1, 3, 3), NO_SUCH);
    said.due("ofLetter: letter, what", desk.ofLetter(8, 10), NO_SUCH);
    said.due("ofDrawer: drawer, what", desk.ofDrawer(6, 8), NO_SUCH);
    said.due("ifSent: the other one is none, the first one was not sent", desk.ifSent(0, 8), NO_SUCH);
    said.due("ifSent: the first one is none, the other one", desk.ifSent(8, 0), NO_SUCH);
    Checks.putText(desk, "k".repeat(80));
    said.due("put: character, length", desk.put(32), BAD_VALUE);
    MoodDrawers late = new MoodDrawers();
    Checks.passUntil(late, 999, 23);
    said.due("pass: hours, day", late.pass(241), BAD_VALUE);
    MoodDrawers full = Checks.fullDesk();
    said.due("write: answers, letters", full.write(0, 0, 30), NO_SUCH);
    said.due("write: heat, letters", full.write(0, 100, NONE), BAD_VALUE);
    said.due("write: letters, not sent", full.write(0, 0, 0), TOO_MANY);
  }

  /** Of two desks alike one gets a call that is refused: both have to tell the same then, however they go on. */
  private static void errorsChangeNothing() {
    Sentence said = new Sentence("Terms", "A call that returns an error changes nothing");
    for (int ending = 0; ending < Told.ENDINGS; ending++) {
      String untouched = Told.behind(busyDesk(), ending);
      for (int kind = 0; kind < REFUSED; kind++) {
        MoodDrawers desk = busyDesk();
        long answer = refused(desk, kind);
        said.due("refused call " + kind + " answers " + answer, answer < 0 && answer > NONE ? 1 : 0, 1);
        said.dueSame("refused call " + kind + ", ending " + ending, Told.behind(desk, ending), untouched);
      }
      MoodDrawers empty = new MoodDrawers();
      said.due("undo() of nothing", empty.undo(), NOT_POSSIBLE);
      said.due("restore() of nothing", empty.restore(0), NOT_POSSIBLE);
      said.due("carryOut() of nothing", empty.carryOut(), MoodDrawers.BAD_TEXT);
      said.dueSame("empty, ending " + ending, Told.behind(empty, ending), Told.behind(new MoodDrawers(), ending));
    }
  }

  /** Letters of each kind, a full and a locked drawer, hours, a slot, six states, and 79 characters of orders. */
  private static MoodDrawers busyDesk() {
    MoodDrawers desk = new MoodDrawers();
    desk.rest(1, 0);
    desk.write(1, 30, NONE);
    desk.write(1, 30, NONE);
    desk.burn(1);
    desk.pass(30);
    Checks.write(desk, 3, 8);
    desk.save(1);
    desk.turn(1);
    desk.write(1, 40, 0);
    desk.hours(2, 9, 3);
    Checks.putText(desk, "+2:10^0;" + "k0;".repeat(23) + "t5");
    return desk;
  }

  private static long refused(MoodDrawers desk, int kind) {
    switch (kind) {
      case 0: return desk.set(-1, 1);
      case 1: return desk.set(POST, 24);
      case 2: return desk.set(COOL, 100);
      case 3: return desk.set(COOLING, -1);
      case 4: return desk.write(6, 5, NONE);
      case 5: return desk.write(2, 5, 11);
      case 6: return desk.write(2, 100, 0);
      case 7: return desk.write(3, 5, 0);
      case 8: return desk.write(2, 5, 1);
      case 9: return desk.turn(6);
      case 10: return desk.rest(6, 5);
      case 11: return desk.rest(0, 31);
      case 12: return desk.hours(6, 1, 2);
      case 13: return desk.hours(2, 24, 2);
      case 14: return desk.hours(2, 4, 24);
      case 15: return desk.hours(2, 4, 4);
      case 16: return desk.hours(2, 4, NONE);
      case 17: return desk.burn(11);
      case 18: return desk.burn(0);
      case 19: return desk.burn(1);
      case 20: return desk.burn(10);
      case 21: return desk.pass(0);
      case 22: return desk.pass(241);
      case 23: return desk.put(0x7F);
      case 24: return desk.put(0x4100000041L);
      case 25: return desk.put(0x4141);
      case 26: return desk.save(2);
      case 27: return desk.restore(-1);
      case 28: return desk.restore(0);
      case 29: return desk.ifSent(1, 10);
      default: return desk.bestPost(21, 0);
    }
  }

  private static void noneIsNoError() {
    Sentence said = new Sentence("Terms", "NONE (-6) is not an error");
    MoodDrawers desk = new MoodDrawers();
    said.due("write that answers NONE", desk.write(0, 0, NONE), 0);
    said.due("hours that are NONE", desk.hours(0, NONE, 0), 0);
    said.due("both are kept as changes", desk.count(11), 2);
    said.due("ofLetter(0, 5)", desk.ofLetter(0, 5), -6);
    said.due("ofLetter(0, 6)", desk.ofLetter(0, 6), -6);
    said.due("ofDrawer(0, 3)", desk.ofDrawer(0, 3), -6);
    said.due("ofDrawer(0, 4)", desk.ofDrawer(0, 4), -6);
    said.due("mostRegretted()", desk.mostRegretted(), -6);
    said.due("share()", new MoodDrawers().share(), -6);
    desk.turn(0);
    said.due("goesIn(0), locked", desk.goesIn(0), -6);
    Checks.putText(desk, "k0");
    said.due("fault() of k0", desk.fault(), -6);
  }

  private static void noneBehindErrors() {
    Sentence said = new Sentence("Terms", "it is returned only if no error applies");
    MoodDrawers desk = new MoodDrawers();
    said.due("ofLetter(0, 5) without letters", desk.ofLetter(0, 5), NO_SUCH);
    said.due("ofLetter(0, 6) without letters", desk.ofLetter(0, 6), NO_SUCH);
    said.due("ofDrawer(6, 3)", desk.ofDrawer(6, 3), NO_SUCH);
    said.due("ofDrawer(6, 4)", desk.ofDrawer(6, 4), NO_SUCH);
    said.due("goesIn(0) without letters", desk.goesIn(0), NO_SUCH);
    desk.set(COOLING, 0);
    desk.write(0, 99, NONE);
    said.due("one that would never go", desk.goesIn(0), NONE);
    desk.burn(0);
    said.due("a burnt one that would never go", desk.goesIn(0), NOT_POSSIBLE);
  }

  private static void numberedFrom0() {
    Sentence said = new Sentence("Terms", "Everything is numbered from 0");
    MoodDrawers desk = new MoodDrawers();
    said.due("the first setting", desk.set(0, 16), 17);
    said.due("the last setting", desk.set(2, 4), 5);
    said.due("the first letter, in the first drawer", desk.write(0, 7, NONE), 0);
    said.due("the second letter, in the last drawer", desk.write(5, 8, NONE), 1);
    said.due("ofLetter(0, 1)", desk.ofLetter(0, 1), 7);
    said.due("ofLetter(1, 1)", desk.ofLetter(1, 1), 8);
    said.due("the first day", desk.count(0), 0);
    said.due("its first hour", desk.count(1), 0);
    said.due("the first slot", desk.save(0), 2);
    said.due("the second slot", desk.save(1), 2);
    desk.put(Checks.code("x"));
    said.due("the first character", desk.fault(), 0);
    for (int number : new int[] {-1, 2, 6}) {
      said.due("no letter " + number, desk.ofLetter(number, 0), NO_SUCH);
    }
  }

  private static void setsAreMasks() {
    Sentence said = new Sentence("Terms", "Sets of letters are bit masks (long)");
    said.due("no letters", new MoodDrawers().letters(0), 0);
    MoodDrawers desk = Checks.fullDesk();
    said.due("all 30", desk.letters(0), (1L << 30) - 1);
    desk.burn(29);
    said.due("the last one", desk.letters(2), 1L << 29);
    desk.burn(0);
    said.due("the first one, too", desk.letters(2), 1L << 29 | 1);
    said.due("all the others", desk.letters(0), (1L << 29) - 2);
  }

  private static void roundedDown() {
    Sentence said = new Sentence("Terms", "Divisions are rounded down");
    int[][] halves = {{0, 0}, {1, 0}, {2, 1}, {3, 1}, {98, 49}, {99, 49}};
    for (int[] half : halves) {
      MoodDrawers desk = Checks.quickDesk();
      desk.write(0, 50, NONE);
      desk.pass(24);
      desk.write(1, half[0], 0);
      desk.pass(24);
      said.due("regret with an answer of " + half[0], desk.ofLetter(0, 7), 50 + half[1]);
    }
  }
}
