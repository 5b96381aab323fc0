/** Promises 9 to 14: ofLetter, ofDrawer, letters, count, meanHeat, share. */
public final class QueriesTest {
  private static final int NO_SUCH = MoodDrawers.NO_SUCH;
  private static final int BAD_VALUE = MoodDrawers.BAD_VALUE;
  private static final int NONE = MoodDrawers.NONE;

  public static void main(String[] args) {
    ofLetter();
    heats();
    regretsOfAChain();
    ofDrawer();
    letters();
    count();
    meanHeat();
    share();
    Checks.end("QueriesTest");
  }

  private static void dueOfLetter(MoodDrawers desk, int letter, int... due) {
    for (int what = 0; what < due.length; what++) {
      Checks.due("ofLetter(" + letter + ", " + what + ")", desk.ofLetter(letter, what), due[what]);
    }
  }

  private static void ofLetter() {
    MoodDrawers desk = Checks.quickDesk();
    Checks.due("no letter yet", desk.ofLetter(0, 0), NO_SUCH);
    desk.write(4, 21, NONE);
    Checks.due("sent", desk.pass(24), 1);
    desk.write(5, 33, 0);
    desk.write(2, 44, 0);
    desk.burn(2);
    desk.write(1, 90, 0);
    desk.turn(1);
    Checks.due("sent too", desk.pass(24), 1);
    desk.write(3, 12, 1);
    dueOfLetter(desk, 0, 4, 21, 21, 0, 1, 0, NONE, 21 + 16, 3, 0);
    dueOfLetter(desk, 1, 5, 33, 33, 1, 1, 1, 0, 33, 1, 1);
    dueOfLetter(desk, 2, 2, 44, 39, 1, 2, NONE, 0, 0, 0, 1);
    dueOfLetter(desk, 3, 1, 90, 85, 1, 0, NONE, 0, 0, 0, 1);
    dueOfLetter(desk, 4, 3, 12, 12, 2, 0, NONE, 1, 0, 0, 2);
    for (int letter : new int[] {-1, NONE, 5, 30, Integer.MIN_VALUE, Integer.MAX_VALUE}) {
      Checks.due("no such letter", desk.ofLetter(letter, -1), NO_SUCH);
    }
    for (int what : new int[] {-1, 10, Integer.MIN_VALUE, Integer.MAX_VALUE}) {
      Checks.due("nothing of a letter", desk.ofLetter(0, what), BAD_VALUE);
    }
  }

  private static void heats() {
    MoodDrawers desk = new MoodDrawers();
    desk.write(0, 12, NONE);
    desk.turn(0);
    desk.pass(23);
    Checks.due("the day itself", desk.ofLetter(0, 2), 12);
    desk.pass(1);
    Checks.due("a day", desk.ofLetter(0, 2), 7);
    desk.pass(24);
    Checks.due("two days", desk.ofLetter(0, 2), 2);
    desk.pass(24);
    Checks.due("not below 0", desk.ofLetter(0, 2), 0);
    Checks.due("as it was written", desk.ofLetter(0, 1), 12);
    desk.set(MoodDrawers.COOLING, 1);
    Checks.due("cooling as it is now", desk.ofLetter(0, 2), 9);
    desk.set(MoodDrawers.COOLING, 0);
    Checks.due("no cooling", desk.ofLetter(0, 2), 12);
    desk.write(1, 80, NONE);
    desk.burn(1);
    desk.set(MoodDrawers.COOLING, 20);
    desk.pass(72);
    Checks.due("a burnt one cools", desk.ofLetter(1, 2), 20);
    desk.pass(240);
    Checks.due("a burnt one is not below 0", desk.ofLetter(1, 2), 0);
  }

  private static void regretsOfAChain() {
    MoodDrawers desk = Checks.quickDesk();
    int answers = NONE;
    for (int letter = 0; letter < 30; letter++) {
      answers = desk.write(letter % 6, 99, answers);
      desk.pass(24);
    }
    Checks.due("the last one's regret", desk.ofLetter(29, 7), 99);
    Checks.due("the last but one's", desk.ofLetter(28, 7), 99 + 49);
    Checks.due("the next", desk.ofLetter(27, 7), 99 + 74);
    Checks.due("the first one's", desk.ofLetter(0, 7), 197);
    Checks.due("the last one's depth", desk.ofLetter(29, 9), 29);
    Checks.due("the first one's depth", desk.ofLetter(0, 9), 0);
    Checks.due("the most regretted", desk.mostRegretted(), 0);
    MoodDrawers other = Checks.quickDesk();
    other.write(0, 10, NONE);
    other.pass(24);
    other.write(1, 7, 0);
    other.write(2, 31, 0);
    other.write(3, 30, 0);
    other.pass(24);
    Checks.due("half of the greatest alone", other.ofLetter(0, 7), 10 + 15);
    other.write(4, 51, 1);
    other.pass(24);
    Checks.due("half of what is an answer's own", other.ofLetter(1, 7), 7 + 25);
    Checks.due("the greatest regret, not the greatest heat", other.ofLetter(0, 7), 10 + 16);
  }

  private static void ofDrawer() {
    MoodDrawers desk = new MoodDrawers();
    desk.rest(1, 0);
    desk.write(1, 9, NONE);
    desk.write(1, 8, NONE);
    desk.write(0, 77, NONE);
    desk.pass(24);
    desk.write(1, 60, NONE);
    desk.write(1, 41, 0);
    desk.write(1, 3, NONE);
    desk.write(1, 50, NONE);
    desk.burn(6);
    desk.turn(1);
    desk.hours(1, 20, 4);
    desk.pass(17);
    int[] due = {3, 1, 0, 20, 4, 60 + 41 + 3, 2, 1};
    for (int what = 0; what < due.length; what++) {
      Checks.due("ofDrawer(1, " + what + ")", desk.ofDrawer(1, what), due[what]);
    }
    Checks.due("heat of another", desk.ofDrawer(0, 5), 72);
    desk.pass(24);
    Checks.due("heat of all its letters a day later", desk.ofDrawer(1, 5), 55 + 36 + 0);
    MoodDrawers full = new MoodDrawers();
    for (int letter = 0; letter < 30; letter++) {
      full.write(letter % 5, 10, NONE);
      full.write(letter % 5, 10, NONE);
      full.undo();
    }
    Checks.due("the last letter", full.write(4, 10, NONE), 29);
    Checks.due("heat from the first letter to the last, none of undone ones", full.ofDrawer(0, 5), 60);
    Checks.due("no heat without letters", full.ofDrawer(5, 5), 0);
    for (int mood : new int[] {-1, 6, Integer.MIN_VALUE, Integer.MAX_VALUE}) {
      Checks.due("no such drawer", desk.ofDrawer(mood, -1), NO_SUCH);
    }
    for (int what : new int[] {-1, 8, Integer.MIN_VALUE, Integer.MAX_VALUE}) {
      Checks.due("nothing of a drawer", desk.ofDrawer(0, what), BAD_VALUE);
    }
  }

  private static void letters() {
    MoodDrawers desk = new MoodDrawers();
    desk.rest(0, 0);
    desk.rest(1, 1);
    desk.write(0, 30, NONE);
    desk.write(0, 31, NONE);
    desk.write(1, 30, NONE);
    desk.write(2, 0, NONE);
    Checks.due("in drawers", desk.letters(0), 15);
    Checks.due("would go", desk.letters(3), 1);
    desk.turn(0);
    Checks.due("not from a locked drawer", desk.letters(3), 0);
    desk.hours(0, 0, 1);
    Checks.due("locked as it is, whatever the hour would do", desk.letters(3), 0);
    desk.hours(0, NONE, 0);
    desk.turn(0);
    desk.hours(0, 1, 0);
    Checks.due("unlocked as it is, whatever the hour would do", desk.letters(3), 1);
    desk.hours(0, NONE, 0);
    desk.burn(0);
    Checks.due("burnt", desk.letters(2), 1);
    Checks.due("none sent", desk.letters(1), 0);
    Checks.due("not a burnt one", desk.letters(3), 0);
    desk.pass(24);
    Checks.due("would go a day later", desk.letters(3), 2 | 4);
    desk.pass(18);
    Checks.due("sent", desk.letters(1), 2 | 4);
    Checks.due("left", desk.letters(0), 8);
    Checks.due("none would go", desk.letters(3), 0);
    for (int what : new int[] {-1, 4, Integer.MIN_VALUE, Integer.MAX_VALUE}) {
      Checks.due("no such letters", desk.letters(what), -2);
    }
  }

  private static void count() {
    MoodDrawers desk = new MoodDrawers();
    desk.set(MoodDrawers.POST, 3);
    desk.set(MoodDrawers.COOL, 4);
    desk.set(MoodDrawers.COOLING, 6);
    desk.rest(0, 0);
    desk.write(0, 4, NONE);
    desk.write(0, 99, NONE);
    desk.write(1, 99, NONE);
    desk.write(1, 99, NONE);
    desk.write(1, 99, NONE);
    desk.burn(2);
    desk.burn(4);
    desk.turn(5);
    desk.pass(29);
    Checks.putText(desk, "what?");
    desk.undo();
    desk.pass(29);
    desk.undo();
    desk.pass(29);
    int[] due = {1, 5, 5, 2, 1, 2, 1, 3, 4, 6, 5, 6};
    for (int what = 0; what < due.length; what++) {
      Checks.due("count(" + what + ")", desk.count(what), due[what]);
    }
    for (int what : new int[] {-1, 12, Integer.MIN_VALUE, Integer.MAX_VALUE}) {
      Checks.due("no such count", desk.count(what), BAD_VALUE);
    }
  }

  private static void meanHeat() {
    MoodDrawers desk = Checks.quickDesk();
    Checks.due("without letters", desk.meanHeat(), 0);
    int together = 0;
    for (int letter = 0; letter < 30; letter++) {
      int heat = letter < 2 ? 0 : letter == 2 ? 1 : letter * 37 % 100;
      desk.write(letter % 6, heat, NONE);
      Checks.due("the one that was not sent does not count", desk.meanHeat(),
          letter == 0 ? 0 : Double.doubleToLongBits((double) together / (double) letter));
      desk.pass(24);
      together += heat;
      Checks.due("mean of " + together + " by " + (letter + 1), desk.meanHeat(),
          Double.doubleToLongBits((double) together / (double) (letter + 1)));
    }
    MoodDrawers near = Checks.quickDesk();
    for (int letter = 0; letter < 30; letter++) {
      near.write(letter % 6, letter == 0 ? 3 : 2, NONE);
      near.pass(24);
    }
    Checks.due("just above a power of 2", near.meanHeat(), Double.doubleToLongBits(61.0 / 30.0));
    MoodDrawers cooled = new MoodDrawers();
    cooled.write(0, 40, NONE);
    cooled.write(0, 99, NONE);
    cooled.burn(1);
    cooled.pass(240);
    Checks.due("heat as it was sent, none of burnt ones", cooled.meanHeat(), Double.doubleToLongBits(30.0));
    MoodDrawers hottest = Checks.quickDesk();
    hottest.write(0, 99, NONE);
    hottest.pass(24);
    Checks.due("the greatest mean", hottest.meanHeat(), Double.doubleToLongBits(99.0));
  }

  private static void share() {
    MoodDrawers desk = Checks.quickDesk();
    Checks.due("without letters", desk.share(), NONE);
    for (int letter = 0; letter < 30; letter++) {
      desk.write(letter % 6, 1, NONE);
      Checks.due("share of " + letter + " by " + (letter + 1), desk.share(),
          Float.floatToIntBits((float) letter / (float) (letter + 1)));
      desk.pass(24);
      Checks.due("share of all", desk.share(), Float.floatToIntBits(1.0f));
    }
    MoodDrawers burnt = Checks.quickDesk();
    for (int letter = 0; letter < 30; letter++) {
      burnt.write(letter % 6, 1, NONE);
      burnt.burn(letter);
      Checks.due("none sent", burnt.share(), 0);
    }
    MoodDrawers few = Checks.quickDesk();
    few.write(0, 1, NONE);
    few.pass(24);
    for (int letter = 1; letter < 30; letter++) {
      few.write(letter % 6, 1, NONE);
      few.burn(letter);
      Checks.due("share of 1 by " + (letter + 1), few.share(),
          Float.floatToIntBits(1.0f / (float) (letter + 1)));
    }
  }
}
