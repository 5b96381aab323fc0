/** The sentences of settings, drawers, letters, an hour, and regrets. */
final class TermsSentences {
  private static final int NO_SUCH = MoodDrawers.NO_SUCH;
  private static final int BAD_VALUE = MoodDrawers.BAD_VALUE;
  private static final int TOO_MANY = MoodDrawers.TOO_MANY;
  private static final int NOT_POSSIBLE = MoodDrawers.NOT_POSSIBLE;
  private static final int NONE = MoodDrawers.NONE;
  private static final int POST = MoodDrawers.POST;
  private static final int COOL = MoodDrawers.COOL;
  private static final int COOLING = MoodDrawers.COOLING;

  private TermsSentences() {
  }

  static void test() {
    settingPost();
    settingCool();
    settingCooling();
    drawers();
    roomOfADrawer();
    restOfADrawer();
    lockOfADrawer();
    hoursOfADrawer();
    letters();
    howALetterIs();
    heatNow();
    heatOfASentOne();
    dayOf24Hours();
    daysSince();
    hourOfNowPasses();
    hourOfUnlocking();
    hourOfLocking();
    hourOfThePost();
    behindTheHour23();
    regretOfASentOne();
    regretOfAnother();
  }

  private static void settingPost() {
    Sentence said = new Sentence("Settings",
        "(In parentheses: range; first value.) POST (0 to 23; 17): the hour of the post");
    for (int post : new int[] {0, 17, 23}) {
      MoodDrawers desk = Checks.quickDesk();
      said.due("POST at first", desk.count(7), 17);
      if (post != 17) {
        said.due("set(POST, " + post + ")", desk.set(POST, post), 17);
      }
      desk.write(0, 0, NONE);
      said.due("ahead of the hour " + post, post == 0 ? 0 : desk.pass(post), 0);
      said.due("the hour " + post, desk.pass(1), 1);
    }
    for (int post : Checks.outside(0, 23)) {
      said.due("set(POST, " + post + ")", new MoodDrawers().set(POST, post), BAD_VALUE);
    }
  }

  private static void settingCool() {
    Sentence said = new Sentence("Settings", "COOL (0 to 99; 30): the heat up to which a letter goes");
    for (int cool : new int[] {0, 30, 98, 99}) {
      MoodDrawers desk = new MoodDrawers();
      said.due("COOL at first", desk.count(8), 30);
      if (cool != 30) {
        said.due("set(COOL, " + cool + ")", desk.set(COOL, cool), 30);
      }
      desk.rest(0, 0);
      desk.write(0, cool, NONE);
      desk.write(0, Math.min(99, cool + 1), NONE);
      said.due("those that go up to " + cool, desk.letters(3), cool == 99 ? 3 : 1);
      said.due("those that are sent up to " + cool, desk.pass(24), cool == 99 ? 2 : 1);
    }
    for (int cool : Checks.outside(0, 99)) {
      said.due("set(COOL, " + cool + ")", new MoodDrawers().set(COOL, cool), BAD_VALUE);
    }
  }

  private static void settingCooling() {
    Sentence said = new Sentence("Settings", "COOLING (0 to 20; 5): heat that is lost in a day");
    for (int cooling : new int[] {0, 1, 5, 19, 20}) {
      MoodDrawers desk = new MoodDrawers();
      said.due("COOLING at first", desk.count(9), 5);
      if (cooling != 5) {
        said.due("set(COOLING, " + cooling + ")", desk.set(COOLING, cooling), 5);
      }
      desk.write(0, 99, NONE);
      desk.pass(24);
      said.due("a day at " + cooling, desk.ofLetter(0, 2), 99 - cooling);
      desk.pass(48);
      said.due("three days at " + cooling, desk.ofLetter(0, 2), 99 - 3 * cooling);
    }
    for (int cooling : Checks.outside(0, 20)) {
      said.due("set(COOLING, " + cooling + ")", new MoodDrawers().set(COOLING, cooling), BAD_VALUE);
    }
  }

  private static void drawers() {
    Sentence said = new Sentence("Drawers", "There are 6 drawers, one for each mood, 0 to 5");
    MoodDrawers desk = new MoodDrawers();
    for (int mood = 0; mood < 6; mood++) {
      said.due("write, mood " + mood, desk.write(mood, 10, NONE), mood);
      said.due("letters in the drawer " + mood, desk.ofDrawer(mood, 0), 1);
    }
    for (int mood : Checks.outside(0, 5)) {
      said.due("write, mood " + mood, desk.write(mood, 10, NONE), NO_SUCH);
      said.due("turn(" + mood + ")", desk.turn(mood), NO_SUCH);
      said.due("ofDrawer(" + mood + ", 0)", desk.ofDrawer(mood, 0), NO_SUCH);
    }
  }

  private static void roomOfADrawer() {
    Sentence said = new Sentence("Drawers", "A drawer has room for 8 letters");
    for (int mood = 0; mood < 6; mood++) {
      MoodDrawers desk = new MoodDrawers();
      Checks.write(desk, mood, 7);
      said.due("the eighth letter, mood " + mood, desk.write(mood, 0, NONE), 7);
      said.due("full, mood " + mood, desk.ofDrawer(mood, 0), 8);
      said.due("the ninth letter, mood " + mood, desk.write(mood, 0, NONE), TOO_MANY);
      said.due("another drawer has room", desk.write(5 - mood, 0, NONE), 8);
    }
  }

  private static void restOfADrawer() {
    Sentence said = new Sentence("Drawers", "it has rest, 0 to 30 days (2 at first)");
    MoodDrawers desk = new MoodDrawers();
    for (int mood = 0; mood < 6; mood++) {
      said.due("rest at first, mood " + mood, desk.ofDrawer(mood, 2), 2);
    }
    desk.write(0, 0, NONE);
    said.due("goes behind 2 days", desk.goesIn(0), 2 * 24 + 18);
    said.due("rest(0, 0)", desk.rest(0, 0), 2);
    said.due("goes on the day itself", desk.goesIn(0), 18);
    said.due("rest(0, 30)", desk.rest(0, 30), 0);
    said.due("goes behind 30 days", desk.goesIn(0), 30 * 24 + 18);
    for (int days : Checks.outside(0, 30)) {
      said.due("rest(0, " + days + ")", desk.rest(0, days), BAD_VALUE);
    }
  }

  private static void lockOfADrawer() {
    Sentence said = new Sentence("Drawers", "it is locked or not (not at first)");
    MoodDrawers desk = new MoodDrawers();
    said.due("locked ones at first", desk.count(6), 0);
    for (int mood = 0; mood < 6; mood++) {
      said.due("at first, mood " + mood, desk.ofDrawer(mood, 1), 0);
      desk.turn(mood);
      said.due("locked, mood " + mood, desk.ofDrawer(mood, 1), 1);
    }
    said.due("locked ones", desk.count(6), 6);
  }

  private static void hoursOfADrawer() {
    Sentence said = new Sentence("Drawers",
        "and perhaps it has hours: one at which it is unlocked, and another one at which it is locked (0 to 23 "
        + "each, unlike)");
    MoodDrawers desk = new MoodDrawers();
    for (int mood = 0; mood < 6; mood++) {
      said.due("no hour to unlock at first, mood " + mood, desk.ofDrawer(mood, 3), NONE);
      said.due("no hour to lock at first, mood " + mood, desk.ofDrawer(mood, 4), NONE);
    }
    said.due("hours(5, 0, 23)", desk.hours(5, 0, 23), 0);
    said.due("unlocked at 0", desk.ofDrawer(5, 3), 0);
    said.due("locked at 23", desk.ofDrawer(5, 4), 23);
    said.due("hours(5, 23, 0)", desk.hours(5, 23, 0), 1);
    for (int hour : Checks.outside(0, 23)) {
      said.due("unlocked at " + hour, desk.hours(5, hour, 3), BAD_VALUE);
      said.due("locked at " + hour, desk.hours(5, 3, hour), BAD_VALUE);
    }
    for (int hour = 0; hour < 24; hour++) {
      said.due("both at " + hour, desk.hours(5, hour, hour), BAD_VALUE);
    }
    said.due("unlocked at 23", desk.ofDrawer(5, 3), 23);
    said.due("locked at 0", desk.ofDrawer(5, 4), 0);
  }

  private static void letters() {
    Sentence said = new Sentence("Letters",
        "There are up to 30 letters, numbered in the order in which they were written: each of a mood, with heat "
        + "(0 to 99), and perhaps it answers a letter that was written earlier, and was sent");
    MoodDrawers desk = Checks.quickDesk();
    said.due("the coldest", desk.write(0, 0, NONE), 0);
    said.due("its own number", desk.write(1, 0, 1), NO_SUCH);
    said.due("one that was not sent", desk.write(1, 0, 0), NOT_POSSIBLE);
    desk.pass(24);
    said.due("one that was sent", desk.write(1, 99, 0), 1);
    said.due("what it answers", desk.ofLetter(1, 6), 0);
    said.due("the coldest one's heat", desk.ofLetter(0, 1), 0);
    said.due("the hottest one's heat", desk.ofLetter(1, 1), 99);
    for (int heat : Checks.outside(0, 99)) {
      said.due("heat " + heat, desk.write(1, heat, NONE), BAD_VALUE);
    }
    for (int letter = 2; letter < 30; letter++) {
      said.due("the next letter", desk.write(letter % 6, letter, NONE), letter);
      said.due("its heat", desk.ofLetter(letter, 1), letter);
    }
    said.due("one more than 30", desk.write(0, 0, NONE), TOO_MANY);
    said.due("letters", desk.count(2), 30);
  }

  private static void howALetterIs() {
    Sentence said = new Sentence("Letters", "It lies in the drawer of its mood (0), is sent (1), or is burnt (2)");
    MoodDrawers desk = Checks.quickDesk();
    desk.write(4, 1, NONE);
    desk.write(4, 2, NONE);
    said.due("in the drawer", desk.ofLetter(0, 4), 0);
    said.due("two in the drawer", desk.ofDrawer(4, 0), 2);
    desk.burn(1);
    said.due("burnt", desk.ofLetter(1, 4), 2);
    said.due("one in the drawer", desk.ofDrawer(4, 0), 1);
    desk.pass(18);
    said.due("sent", desk.ofLetter(0, 4), 1);
    said.due("burnt as before", desk.ofLetter(1, 4), 2);
    said.due("none in the drawer", desk.ofDrawer(4, 0), 0);
  }

  private static void heatNow() {
    Sentence said = new Sentence("Letters",
        "Its heat now is that with which it was written, less COOLING (as that is now) for each day since, but "
        + "at least 0 (also of a burnt one)");
    MoodDrawers desk = new MoodDrawers();
    desk.set(COOL, 0);
    desk.rest(0, 30);
    desk.write(0, 11, NONE);
    desk.write(0, 10, NONE);
    desk.burn(1);
    int[][] due = {{11, 10}, {6, 5}, {1, 0}, {0, 0}};
    for (int day = 0; day < due.length; day++) {
      said.due("heat on the day " + day, desk.ofLetter(0, 2), due[day][0]);
      said.due("heat of the burnt one on the day " + day, desk.ofLetter(1, 2), due[day][1]);
      desk.pass(24);
    }
    desk.set(COOLING, 1);
    said.due("heat, less 1 for each of 4 days", desk.ofLetter(0, 2), 7);
    said.due("heat of the burnt one, less 1", desk.ofLetter(1, 2), 6);
    desk.set(COOLING, 0);
    said.due("heat, less nothing", desk.ofLetter(0, 2), 11);
    desk.set(COOLING, 20);
    said.due("heat, less 20", desk.ofLetter(0, 2), 0);
    said.due("heat of the burnt one, less 20", desk.ofLetter(1, 2), 0);
    said.due("the heat with which it was written", desk.ofLetter(0, 1), 11);
  }

  private static void heatOfASentOne() {
    Sentence said = new Sentence("Letters", "when it is sent, its heat stays as it is then");
    MoodDrawers desk = new MoodDrawers();
    desk.write(0, 40, NONE);
    desk.write(1, 2, NONE);
    desk.pass(66);
    said.due("both are sent", desk.letters(1), 3);
    said.due("heat of the day 2", desk.ofLetter(0, 2), 30);
    said.due("heat of the other one", desk.ofLetter(1, 2), 0);
    desk.pass(240);
    said.due("heat 10 days later", desk.ofLetter(0, 2), 30);
    desk.set(COOLING, 0);
    said.due("heat without COOLING", desk.ofLetter(0, 2), 30);
    said.due("heat of the other one without COOLING", desk.ofLetter(1, 2), 0);
    desk.set(COOLING, 20);
    said.due("heat with the most COOLING", desk.ofLetter(0, 2), 30);
  }

  private static void dayOf24Hours() {
    Sentence said = new Sentence("Letters", "A day has 24 hours");
    MoodDrawers desk = new MoodDrawers();
    for (int hour = 0; hour < 24; hour++) {
      said.due("the day in the hour " + hour, desk.count(0), 0);
      said.due("the hour", desk.count(1), hour);
      desk.pass(1);
    }
    said.due("the day behind the hour 23", desk.count(0), 1);
    said.due("the hour behind the hour 23", desk.count(1), 0);
    desk.pass(240);
    said.due("the day behind 240 hours", desk.count(0), 11);
  }

  private static void daysSince() {
    Sentence said = new Sentence("Letters", "the days since are the day of now less the day on which it was written");
    MoodDrawers desk = new MoodDrawers();
    desk.rest(1, 1);
    desk.write(0, 50, NONE);
    desk.pass(23);
    said.due("23 hours, and no day", desk.ofLetter(0, 2), 50);
    desk.write(0, 50, NONE);
    desk.write(1, 0, NONE);
    said.due("rests a day", desk.letters(3), 0);
    desk.pass(1);
    said.due("24 hours, and a day", desk.ofLetter(0, 2), 45);
    said.due("an hour, and a day", desk.ofLetter(1, 2), 45);
    said.due("has rested a day", desk.letters(3), 4);
    desk.pass(23);
    said.due("47 hours, and a day", desk.ofLetter(0, 2), 45);
  }

  private static void hourOfNowPasses() {
    Sentence said = new Sentence("An hour",
        "When an hour passes (that of now, at first the hour 0 of the day 0; behind it the clock goes on)");
    MoodDrawers desk = Checks.quickDesk();
    desk.hours(0, 9, 0);
    desk.hours(1, 9, 1);
    desk.set(POST, 0);
    desk.write(2, 0, NONE);
    said.due("the hour 0 of the day 0 passes", desk.pass(1), 1);
    said.due("sent on the day 0", desk.ofLetter(0, 5), 0);
    said.due("locked at 0", desk.ofDrawer(0, 1), 1);
    said.due("the hour of now", desk.count(1), 1);
    said.due("the hour 1 has not passed", desk.ofDrawer(1, 1), 0);
    desk.set(POST, 1);
    desk.write(2, 0, NONE);
    said.due("it passes", desk.pass(1), 1);
    said.due("locked at 1", desk.ofDrawer(1, 1), 1);
  }

  private static void hourOfUnlocking() {
    Sentence said = new Sentence("An hour", "Each drawer whose hour of unlocking it is, is unlocked");
    MoodDrawers desk = new MoodDrawers();
    for (int mood = 0; mood < 4; mood++) {
      desk.hours(mood, mood == 2 ? 23 : 3, 9);
      desk.turn(mood);
    }
    desk.turn(1);
    desk.hours(3, NONE, 0);
    desk.pass(3);
    said.due("ahead of the hour 3", desk.count(6), 3);
    desk.pass(1);
    said.due("one that was locked", desk.ofDrawer(0, 1), 0);
    said.due("one that was not locked", desk.ofDrawer(1, 1), 0);
    said.due("one of another hour", desk.ofDrawer(2, 1), 1);
    said.due("one without hours", desk.ofDrawer(3, 1), 1);
    desk.turn(0);
    said.due("locked by hand behind its hour", desk.ofDrawer(0, 1), 1);
    desk.pass(23);
    said.due("until the next day", desk.ofDrawer(0, 1), 1);
    desk.pass(1);
    said.due("its hour of the next day", desk.ofDrawer(0, 1), 0);
  }

  private static void hourOfLocking() {
    Sentence said = new Sentence("An hour", "each one whose hour of locking it is, is locked");
    MoodDrawers desk = new MoodDrawers();
    for (int mood = 0; mood < 4; mood++) {
      desk.hours(mood, 9, mood == 2 ? 4 : 3);
    }
    desk.turn(1);
    desk.hours(3, NONE, 3);
    desk.pass(3);
    said.due("ahead of the hour 3", desk.count(6), 1);
    desk.pass(1);
    said.due("one that was not locked", desk.ofDrawer(0, 1), 1);
    said.due("one that was locked", desk.ofDrawer(1, 1), 1);
    said.due("one of the next hour", desk.ofDrawer(2, 1), 0);
    said.due("one without hours", desk.ofDrawer(3, 1), 0);
    desk.turn(0);
    desk.pass(5);
    said.due("unlocked by hand behind its hour", desk.ofDrawer(0, 1), 0);
    desk.pass(18);
    said.due("until the next day", desk.ofDrawer(0, 1), 0);
    desk.pass(1);
    said.due("its hour of the next day", desk.ofDrawer(0, 1), 1);
  }

  private static void hourOfThePost() {
    Sentence said = new Sentence("An hour",
        "If it is the hour of the post, each drawer that is not locked is looked at, in the order of the moods, "
        + "its letters in the order in which they were written: each one that was written at least the rest of the "
        + "drawer days ago, and whose heat is at most COOL, is sent");
    MoodDrawers desk = new MoodDrawers();
    desk.rest(1, 1);
    desk.rest(2, 0);
    desk.write(0, 0, NONE);
    desk.write(1, 35, NONE);
    desk.write(1, 36, NONE);
    desk.write(2, 30, NONE);
    desk.write(2, 31, NONE);
    desk.write(3, 0, NONE);
    desk.turn(3);
    desk.hours(4, 17, 16);
    desk.hours(5, 16, 17);
    desk.turn(4);
    for (int mood = 4; mood < 6; mood++) {
      desk.rest(mood, 0);
      desk.write(mood, 0, NONE);
    }
    said.due("up to the hour of the post", desk.pass(17), 0);
    said.due("the hour of the post", desk.pass(1), 2);
    said.due("cool ones that need no rest, in open drawers", desk.letters(1), 1 << 3 | 1 << 6);
    said.due("the other hours of a day", desk.pass(23), 0);
    said.due("the post of the day 1", desk.pass(1), 2);
    said.due("one whose rest is over, one that is cool", desk.letters(1), 1 << 1 | 1 << 3 | 1 << 4 | 1 << 6);
    said.due("the post of the day 2", desk.pass(24), 2);
    said.due("left in locked drawers", desk.letters(0), 1 << 5 | 1 << 7);
    said.due("a long time later", desk.pass(240), 0);
  }

  private static void behindTheHour23() {
    Sentence said = new Sentence("An hour", "Behind the hour 23 the next day begins with the hour 0");
    MoodDrawers desk = new MoodDrawers();
    desk.hours(0, 23, 0);
    desk.turn(0);
    desk.pass(23);
    said.due("ahead of the hour 23: the day", desk.count(0), 0);
    said.due("ahead of the hour 23: locked", desk.ofDrawer(0, 1), 1);
    desk.pass(1);
    said.due("behind the hour 23: the day", desk.count(0), 1);
    said.due("behind the hour 23: the hour", desk.count(1), 0);
    said.due("behind the hour 23: locked", desk.ofDrawer(0, 1), 0);
    desk.pass(1);
    said.due("behind the hour 0: locked", desk.ofDrawer(0, 1), 1);
    desk.pass(22);
    said.due("the hour 23 again", desk.count(1), 23);
    desk.pass(2);
    said.due("over the end of the day in one call: the day", desk.count(0), 2);
    said.due("over the end of the day in one call: the hour", desk.count(1), 1);
    said.due("over the end of the day in one call: locked", desk.ofDrawer(0, 1), 1);
  }

  private static void regretOfASentOne() {
    Sentence said = new Sentence("Regrets",
        "The regret of a letter that was sent is its heat, and half of the greatest regret of letters that "
        + "answer it and were sent, together (0 of those if there are none)");
    MoodDrawers desk = Checks.quickDesk();
    desk.write(0, 0, NONE);
    desk.write(1, 60, NONE);
    desk.pass(24);
    said.due("no answer, no heat", desk.ofLetter(0, 7), 0);
    said.due("no answer", desk.ofLetter(1, 7), 60);
    desk.write(0, 99, 1);
    desk.turn(0);
    desk.write(2, 99, 1);
    desk.burn(3);
    desk.pass(24);
    said.due("an answer in a drawer, and a burnt one", desk.ofLetter(1, 7), 60);
    desk.write(3, 20, 1);
    desk.write(4, 31, 1);
    desk.write(5, 30, 1);
    desk.pass(24);
    said.due("the greatest of three", desk.ofLetter(1, 7), 60 + 15);
    desk.write(3, 23, 4);
    desk.pass(24);
    said.due("an answer's own regret", desk.ofLetter(4, 7), 20 + 11);
    said.due("no more than the greatest", desk.ofLetter(1, 7), 60 + 15);
    desk.write(3, 24, 4);
    desk.pass(24);
    said.due("by the answer of an answer", desk.ofLetter(1, 7), 60 + (20 + 12) / 2);
    said.due("nobody answers this one", desk.ofLetter(0, 7), 0);
  }

  private static void regretOfAnother() {
    Sentence said = new Sentence("Regrets", "That of one that was not sent is 0");
    MoodDrawers desk = Checks.quickDesk();
    desk.write(0, 99, NONE);
    desk.write(0, 99, NONE);
    desk.burn(1);
    said.due("in a drawer", desk.ofLetter(0, 7), 0);
    said.due("burnt", desk.ofLetter(1, 7), 0);
    desk.pass(18);
    said.due("sent", desk.ofLetter(0, 7), 99);
    said.due("burnt as before", desk.ofLetter(1, 7), 0);
  }
}
