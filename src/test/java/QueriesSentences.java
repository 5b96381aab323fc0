/** The sentences of the promises 9 to 14: ofLetter, ofDrawer, letters, count, meanHeat, share. */
final class QueriesSentences {
  private static final int NO_SUCH = MoodDrawers.NO_SUCH;
  private static final int BAD_VALUE = MoodDrawers.BAD_VALUE;
  private static final int NONE = MoodDrawers.NONE;

  private QueriesSentences() {
  }

  static void test() {
    ofLetter();
    ofLetterErrors();
    ofDrawer();
    ofDrawerErrors();
    letters();
    count();
    meanHeat();
    share();
  }

  private static void ofLetter() {
    Sentence returns = new Sentence("Promise 9", "Returns something about a letter");
    Sentence number = new Sentence("Promise 9", "Returns the number");
    Sentence what = new Sentence("Promise 9",
        "`what`: 0 its mood, 1 the heat with which it was written, 2 its heat now, 3 the day on which it was "
        + "written, 4 how it is, 0 to 2, 5 the day on which it was sent (NONE), 6 what it answers (NONE), 7 its "
        + "regret, 8 how many letters answer it (in whatever way they are), 9 how deep it lies in answers: 0 if it "
        + "answers none, otherwise 1 more than what it answers");
    MoodDrawers desk = answeredDesk();
    int[][] due = {
        {0, 20, 20, 0, 1, 0, NONE, 20 + 15, 4, 0},
        {1, 31, 31, 1, 1, 1, 0, 31, 1, 1},
        {2, 90, 85, 1, 2, NONE, 0, 0, 0, 1},
        {3, 99, 94, 1, 0, NONE, 0, 0, 0, 1},
        {4, 3, 0, 1, 2, NONE, 0, 0, 0, 1},
        {5, 0, 0, 2, 0, NONE, 1, 0, 0, 2},
        {5, 99, 99, 2, 0, NONE, NONE, 0, 0, 0}};
    for (int letter = 0; letter < due.length; letter++) {
      for (int asked = 0; asked < 10; asked++) {
        what.due("ofLetter(" + letter + ", " + asked + ")", desk.ofLetter(letter, asked), due[letter][asked]);
      }
      returns.due("its mood", desk.ofLetter(letter, 0), due[letter][0]);
      number.due("its heat", desk.ofLetter(letter, 1), due[letter][1]);
    }
    MoodDrawers chain = Checks.quickDesk();
    int above = NONE;
    for (int letter = 0; letter < 30; letter++) {
      what.due("the next answer", chain.write(0, 0, above), letter);
      what.due("it lies in answers, deep", chain.ofLetter(letter, 9), letter);
      chain.pass(24);
      above = letter;
    }
    what.due("the last one's day", chain.ofLetter(29, 5), 29);
    what.due("answers to the last one", chain.ofLetter(29, 8), 0);
  }

  /** A letter that was sent, and answers to it that are sent, burnt, and in a drawer. */
  private static MoodDrawers answeredDesk() {
    MoodDrawers desk = Checks.quickDesk();
    desk.write(0, 20, NONE);
    desk.pass(24);
    desk.write(1, 31, 0);
    desk.write(2, 90, 0);
    desk.burn(2);
    desk.turn(3);
    desk.write(3, 99, 0);
    desk.write(4, 3, 0);
    desk.burn(4);
    desk.pass(24);
    desk.write(5, 0, 1);
    desk.write(5, 99, NONE);
    return desk;
  }

  private static void ofLetterErrors() {
    Sentence noSuch = new Sentence("Promise 9", "NO_SUCH if there is no such letter");
    Sentence badValue = new Sentence("Promise 9", "BAD_VALUE if what is out of range");
    MoodDrawers desk = new MoodDrawers();
    for (int what = 0; what < 10; what++) {
      noSuch.due("ofLetter(0, " + what + ") without letters", desk.ofLetter(0, what), NO_SUCH);
    }
    Checks.write(desk, 0, 2);
    for (int letter : new int[] {NONE, 29, 30, 31, 32}) {
      noSuch.due("ofLetter(" + letter + ", 0)", desk.ofLetter(letter, 0), NO_SUCH);
    }
    for (int letter : Checks.outside(0, 1)) {
      noSuch.due("ofLetter(" + letter + ", 0)", desk.ofLetter(letter, 0), NO_SUCH);
    }
    for (int what : Checks.outside(0, 9)) {
      badValue.due("ofLetter(1, " + what + ")", desk.ofLetter(1, what), BAD_VALUE);
    }
    desk.undo();
    noSuch.due("a letter that was undone", desk.ofLetter(1, 0), NO_SUCH);
    noSuch.due("the letter ahead of it", desk.ofLetter(0, 0), 0);
    MoodDrawers full = Checks.fullDesk();
    noSuch.due("ofLetter(29, 0) of 30 letters", full.ofLetter(29, 0), 5);
    noSuch.due("ofLetter(30, 0) of 30 letters", full.ofLetter(30, 0), NO_SUCH);
  }

  private static void ofDrawer() {
    Sentence returns = new Sentence("Promise 10", "Returns something about a drawer");
    Sentence number = new Sentence("Promise 10", "Returns the number");
    Sentence what = new Sentence("Promise 10",
        "`what`: 0 how many letters are in it, 1 whether it is locked (1 or 0), 2 its rest, 3 the hour at which "
        + "it is unlocked (NONE), 4 at which it is locked (NONE), 5 the heat of all its letters now, 6 letters of "
        + "its mood that were sent, 7 that were burnt");
    MoodDrawers desk = new MoodDrawers();
    desk.rest(4, 0);
    desk.write(4, 30, NONE);
    desk.write(4, 29, NONE);
    desk.write(4, 99, NONE);
    desk.write(4, 31, NONE);
    desk.write(4, 32, NONE);
    desk.burn(2);
    desk.write(3, 77, NONE);
    desk.pass(24);
    desk.hours(4, 23, 0);
    desk.turn(4);
    desk.write(4, 50, NONE);
    int[][] due = {{0, 0, 2, NONE, NONE, 0, 0, 0}, {1, 0, 2, NONE, NONE, 72, 0, 0},
        {3, 1, 0, 23, 0, 26 + 27 + 50, 2, 1}, {0, 0, 2, NONE, NONE, 0, 0, 0}};
    for (int drawer = 0; drawer < due.length; drawer++) {
      for (int asked = 0; asked < 8; asked++) {
        String call = "ofDrawer(" + (2 + drawer) + ", " + asked + ")";
        what.due(call, desk.ofDrawer(2 + drawer, asked), due[drawer][asked]);
      }
      returns.due("letters in it", desk.ofDrawer(2 + drawer, 0), due[drawer][0]);
      number.due("its rest", desk.ofDrawer(2 + drawer, 2), due[drawer][2]);
    }
    Checks.passDays(desk, 5);
    what.due("heat 5 days later, of a cold one, too", desk.ofDrawer(4, 5), 1 + 2 + 25);
    desk.pass(24);
    what.due("heat a day later, none below 0", desk.ofDrawer(4, 5), 20);
    MoodDrawers hot = new MoodDrawers();
    for (int letter = 0; letter < 8; letter++) {
      hot.write(0, 99, NONE);
    }
    what.due("a full drawer", hot.ofDrawer(0, 0), 8);
    what.due("the greatest heat", hot.ofDrawer(0, 5), 8 * 99);
    MoodDrawers full = Checks.fullDesk();
    what.due("heat of letters without heat, of 30", full.ofDrawer(5, 5), 0);
    what.due("letters in it, of 30", full.ofDrawer(5, 0), 5);
    full.pass(72);
    what.due("sent, of 30", full.ofDrawer(5, 6), 5);
  }

  private static void ofDrawerErrors() {
    Sentence noSuch = new Sentence("Promise 10", "NO_SUCH if there is no such drawer");
    Sentence badValue = new Sentence("Promise 10", "BAD_VALUE if what is out of range");
    MoodDrawers desk = new MoodDrawers();
    for (int what = 0; what < 8; what++) {
      for (int mood : Checks.outside(0, 5)) {
        noSuch.due("ofDrawer(" + mood + ", " + what + ")", desk.ofDrawer(mood, what), NO_SUCH);
      }
    }
    noSuch.due("ofDrawer(5, 2)", desk.ofDrawer(5, 2), 2);
    for (int what : Checks.outside(0, 7)) {
      badValue.due("ofDrawer(0, " + what + ")", desk.ofDrawer(0, what), BAD_VALUE);
    }
  }

  private static void letters() {
    Sentence set = new Sentence("Promise 11", "Returns letters, as a set");
    Sentence returns = new Sentence("Promise 11", "Returns the set");
    Sentence what = new Sentence("Promise 11",
        "`what`: 0 those in drawers, 1 sent ones, 2 burnt ones, 3 those in drawers that would go if it was the "
        + "hour of the post now (drawers locked or not as they are)");
    Sentence outside = new Sentence("Promise 11", "-2 if what is out of range");
    MoodDrawers desk = Checks.fullDesk();
    set.due("all 30 lie in drawers", desk.letters(0), (1L << 30) - 1);
    returns.due("none is sent", desk.letters(1), 0);
    returns.due("none is burnt", desk.letters(2), 0);
    what.due("all have to rest", desk.letters(3), 0);
    desk.burn(29);
    desk.pass(24);
    what.due("they have to rest a day more", desk.letters(3), 0);
    desk.pass(24);
    what.due("all but the burnt one", desk.letters(3), (1L << 29) - 1);
    desk.turn(0);
    what.due("none of a locked drawer", desk.letters(3), (1L << 29) - (1 << 5));
    desk.hours(0, 0, 1);
    what.due("none though the hour of now would unlock it", desk.letters(3), (1L << 29) - (1 << 5));
    desk.hours(1, 1, 0);
    what.due("those, too, that the hour of now would lock", desk.letters(3), (1L << 29) - (1 << 5));
    desk.hours(0, NONE, 0);
    desk.pass(18);
    set.due("sent: all but those of the drawer 0, and the burnt one", desk.letters(1), (1L << 29) - (1 << 5));
    returns.due("in drawers: those of the drawer 0", desk.letters(0), (1 << 5) - 1);
    returns.due("burnt: the last one", desk.letters(2), 1L << 29);
    what.due("sent ones do not go again", desk.letters(3), 0);
    MoodDrawers heats = Checks.quickDesk();
    heats.set(MoodDrawers.COOL, 50);
    heats.write(0, 50, NONE);
    heats.write(0, 51, NONE);
    what.due("as cool as COOL, and 1 above", heats.letters(3), 1);
    for (int asked : Checks.outside(0, 3)) {
      outside.due("letters(" + asked + ")", desk.letters(asked), -2);
    }
  }

  private static void count() {
    Sentence returns = new Sentence("Promise 12", "Returns a number");
    Sentence number = new Sentence("Promise 12", "Returns the number");
    Sentence what = new Sentence("Promise 12",
        "`what`: 0 the day of now, 1 the hour of now, 2 letters, 3 in drawers, 4 sent, 5 burnt, 6 drawers that "
        + "are locked, 7 to 9 the settings, 10 the length of the pad, 11 how many changes can be undone");
    Sentence outside = new Sentence("Promise 12", "BAD_VALUE if what is out of range");
    MoodDrawers desk = new MoodDrawers();
    int[] first = {0, 0, 0, 0, 0, 0, 0, 17, 30, 5, 0, 0};
    for (int asked = 0; asked < first.length; asked++) {
      what.due("at first: count(" + asked + ")", desk.count(asked), first[asked]);
    }
    desk.set(MoodDrawers.POST, 1);
    desk.set(MoodDrawers.COOL, 2);
    desk.set(MoodDrawers.COOLING, 3);
    desk.rest(0, 0);
    what.due("four changes", desk.count(11), 4);
    desk.write(0, 2, NONE);
    Checks.write(desk, 1, 5);
    desk.burn(4);
    desk.burn(5);
    for (int mood = 2; mood < 6; mood++) {
      desk.turn(mood);
    }
    desk.put(Checks.code("k0;k1;k2"));
    desk.pass(28);
    int[] then = {1, 4, 6, 3, 1, 2, 4, 1, 2, 3, 8, 6};
    for (int asked = 0; asked < then.length; asked++) {
      what.due("then: count(" + asked + ")", desk.count(asked), then[asked]);
    }
    returns.due("the hour", desk.count(1), 4);
    number.due("what can be undone", desk.count(11), 6);
    for (int asked : Checks.outside(0, 11)) {
      outside.due("count(" + asked + ")", desk.count(asked), BAD_VALUE);
    }
    highestCounts(what);
  }

  private static void highestCounts(Sentence what) {
    MoodDrawers desk = Checks.fullDesk();
    what.due("30 letters", desk.count(2), 30);
    what.due("30 in drawers", desk.count(3), 30);
    for (int letter = 0; letter < 10; letter++) {
      desk.burn(letter);
    }
    desk.pass(72);
    what.due("20 are sent", desk.count(4), 20);
    what.due("10 are burnt", desk.count(5), 10);
    what.due("none is in a drawer", desk.count(3), 0);
    for (int mood = 0; mood < 6; mood++) {
      desk.turn(mood);
    }
    what.due("6 drawers are locked", desk.count(6), 6);
    Checks.putText(desk, "~".repeat(80));
    what.due("80 characters", desk.count(10), 80);
    Checks.passUntil(desk, 999, 23);
    what.due("the last day", desk.count(0), 999);
    what.due("its last hour", desk.count(1), 23);
  }

  private static void meanHeat() {
    Sentence mean = new Sentence("Promise 13",
        "Returns the mean heat of letters that were sent: the bits, as Double.doubleToLongBits tells them, of "
        + "the sum of their heats, as a double, divided by how many they are, as a double");
    Sentence none = new Sentence("Promise 13", "Returns the bits (0 if none was sent)");
    MoodDrawers desk = Checks.quickDesk();
    none.due("without letters", desk.meanHeat(), 0);
    desk.write(0, 99, NONE);
    none.due("none is sent", desk.meanHeat(), 0);
    desk.burn(0);
    desk.pass(24);
    none.due("a burnt one is not sent", desk.meanHeat(), 0);
    desk.write(1, 0, NONE);
    desk.pass(24);
    none.due("the bits of 0.0", desk.meanHeat(), Double.doubleToLongBits(0.0));
    int sum = 0;
    for (int sent = 2; sent < 30; sent++) {
      int heat = sent * sent % 100;
      sum += heat;
      desk.write(sent % 6, heat, NONE);
      desk.pass(24);
      mean.due(sum + " by " + sent, desk.meanHeat(), Double.doubleToLongBits((double) sum / (double) sent));
    }
    for (int heat = 0; heat < 100; heat++) {
      MoodDrawers one = Checks.quickDesk();
      one.write(0, heat, NONE);
      one.pass(24);
      mean.due(heat + " by 1", one.meanHeat(), Double.doubleToLongBits(heat));
      one.write(0, 99, NONE);
      one.write(0, 1, NONE);
      one.pass(24);
      mean.due((heat + 100) + " by 3", one.meanHeat(), Double.doubleToLongBits((heat + 100) / 3.0));
      one.set(MoodDrawers.COOLING, 20);
      mean.due("heats stay", one.meanHeat(), Double.doubleToLongBits((heat + 100) / 3.0));
    }
    MoodDrawers least = Checks.quickDesk();
    least.write(0, 1, NONE);
    for (int sent = 1; sent <= 30; sent++) {
      least.pass(24);
      mean.due("1 by " + sent, least.meanHeat(), Double.doubleToLongBits(1.0 / sent));
      least.write(0, 0, NONE);
    }
  }

  private static void share() {
    Sentence share = new Sentence("Promise 14", "Returns the share of letters that were sent, of all: the bits, as "
        + "Float.floatToIntBits tells them, of how many these are, as a float, divided by all, as a float");
    Sentence bits = new Sentence("Promise 14", "Returns the bits");
    Sentence none = new Sentence("Promise 14", "NONE without letters");
    for (int sent = 0; sent <= 30; sent++) {
      MoodDrawers desk = Checks.quickDesk();
      none.due("without letters", desk.share(), NONE);
      for (int letter = 0; letter < sent; letter++) {
        desk.write(letter % 6, 0, NONE);
      }
      desk.pass(24);
      for (int letter = sent; letter < 30; letter++) {
        desk.write(letter % 6, 0, NONE);
        if (letter % 2 == 0) {
          desk.burn(letter);
        }
        float due = (float) sent / (float) (letter + 1);
        share.due(sent + " of " + (letter + 1), desk.share(), Float.floatToIntBits(due));
      }
      bits.due(sent + " of 30", desk.share(), Float.floatToIntBits(sent / 30.0f));
    }
    MoodDrawers undone = new MoodDrawers();
    undone.write(0, 0, NONE);
    bits.due("0 of 1", undone.share(), 0);
    undone.undo();
    none.due("its letter is undone", undone.share(), NONE);
  }
}
