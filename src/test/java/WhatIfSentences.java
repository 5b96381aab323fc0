/** The sentences of the promises 15 to 18: goesIn, bestPost, mostRegretted, ifSent. */
final class WhatIfSentences {
  private static final int NO_SUCH = MoodDrawers.NO_SUCH;
  private static final int BAD_VALUE = MoodDrawers.BAD_VALUE;
  private static final int NOT_POSSIBLE = MoodDrawers.NOT_POSSIBLE;
  private static final int NONE = MoodDrawers.NONE;
  private static final int POST = MoodDrawers.POST;
  private static final int COOL = MoodDrawers.COOL;
  private static final int COOLING = MoodDrawers.COOLING;

  private WhatIfSentences() {
  }

  static void test() {
    goesIn();
    goesInNow();
    goesInErrors();
    goesInUpTo1200();
    bestPost();
    bestPostArguments();
    mostRegretted();
    ifSent();
    ifSentErrors();
  }

  private static void goesIn() {
    Sentence said = new Sentence("Promise 15",
        "Tells in how many hours a letter will be sent, if nothing else is done");
    MoodDrawers desk = new MoodDrawers();
    desk.rest(0, 0);
    desk.rest(1, 30);
    desk.write(0, 30, NONE);
    desk.write(0, 31, NONE);
    desk.write(1, 0, NONE);
    desk.write(2, 41, NONE);
    int[] due = {18, 24 + 18, 30 * 24 + 18, 3 * 24 + 18};
    for (int letter = 0; letter < due.length; letter++) {
      said.due("goesIn(" + letter + ")", desk.goesIn(letter), due[letter]);
    }
    desk.pass(17);
    said.due("in the hour of the post", desk.goesIn(0), 1);
    desk.turn(0);
    desk.pass(1);
    desk.turn(0);
    said.due("just behind the post", desk.goesIn(0), 24);
    desk.set(POST, 18);
    said.due("a post that comes in this hour", desk.goesIn(0), 1);
    said.due("an hour in which it is too hot", desk.goesIn(1), 25);
    desk.pass(25);
    said.due("both went as told", desk.letters(1), 3);
    said.due("the other one goes in", desk.goesIn(3), 48);
    desk.pass(47);
    said.due("it does not go ahead of that", desk.count(4), 2);
    desk.pass(1);
    said.due("it goes then", desk.ofLetter(3, 4), 1);
    goesInByTheHours(said);
  }

  private static void goesInByTheHours(Sentence said) {
    MoodDrawers desk = new MoodDrawers();
    desk.rest(0, 0);
    desk.write(0, 0, NONE);
    int[][] due = { // unlocked at, locked at, due if it is open now, due if it is locked now
        {17, 18, 18, 18}, {17, 0, 18, 18}, {0, 23, 18, 18},
        {18, 17, NONE, NONE}, {0, 17, NONE, NONE}, {16, 17, NONE, NONE}, {23, 0, NONE, NONE},
        {18, 19, 18, NONE}, {19, 18, 18, 24 + 18}};
    for (int[] hours : due) {
      desk.hours(0, hours[0], hours[1]);
      String told = "unlocked at " + hours[0] + ", locked at " + hours[1];
      said.due("open now, " + told, desk.goesIn(0), hours[2]);
      desk.turn(0);
      said.due("locked now, " + told, desk.goesIn(0), hours[3]);
      desk.turn(0);
    }
    desk.pass(12);
    desk.hours(0, 3, 9);
    said.due("open now, though it was locked at 9", desk.goesIn(0), 6);
    desk.turn(0);
    said.due("locked now, and at each post to come", desk.goesIn(0), NONE);
    desk.hours(0, 9, 3);
    said.due("locked now, though it was unlocked at 9", desk.goesIn(0), 6 + 24);
  }

  private static void goesInNow() {
    Sentence said = new Sentence("Promise 15", "Returns how many (0 if it is)");
    MoodDrawers desk = new MoodDrawers();
    desk.write(0, 0, NONE);
    said.due("66 hours", desk.goesIn(0), 66);
    for (int left = 65; left >= 1; left--) {
      desk.pass(1);
      said.due("an hour less", desk.goesIn(0), left);
    }
    desk.pass(1);
    said.due("it is sent", desk.goesIn(0), 0);
    desk.turn(0);
    desk.pass(240);
    said.due("it was sent long ago", desk.goesIn(0), 0);
  }

  private static void goesInErrors() {
    Sentence noSuch = new Sentence("Promise 15", "NO_SUCH if there is no such letter");
    Sentence burnt = new Sentence("Promise 15", "NOT_POSSIBLE if it is burnt");
    MoodDrawers desk = new MoodDrawers();
    noSuch.due("goesIn(0) without letters", desk.goesIn(0), NO_SUCH);
    Checks.write(desk, 0, 2);
    desk.burn(1);
    for (int letter : new int[] {NONE, 29, 30, 31, 32}) {
      noSuch.due("goesIn(" + letter + ")", desk.goesIn(letter), NO_SUCH);
    }
    for (int letter : Checks.outside(0, 1)) {
      noSuch.due("goesIn(" + letter + ")", desk.goesIn(letter), NO_SUCH);
    }
    burnt.due("a burnt one", desk.goesIn(1), NOT_POSSIBLE);
    desk.turn(0);
    burnt.due("a burnt one of a locked drawer", desk.goesIn(1), NOT_POSSIBLE);
    burnt.due("one in a locked drawer", desk.goesIn(0), NONE);
    MoodDrawers full = Checks.fullDesk();
    noSuch.due("goesIn(29) of 30 letters", full.goesIn(29), 66);
    noSuch.due("goesIn(30) of 30 letters", full.goesIn(30), NO_SUCH);
  }

  private static void goesInUpTo1200() {
    Sentence said = new Sentence("Promise 15", "NONE if it takes more than 1200");
    MoodDrawers desk = new MoodDrawers();
    desk.set(COOL, 0);
    desk.set(COOLING, 1);
    desk.set(POST, 23);
    desk.write(0, 49, NONE);
    desk.write(0, 50, NONE);
    said.due("1200 hours", desk.goesIn(0), 1200);
    said.due("1224 hours", desk.goesIn(1), NONE);
    desk.pass(23);
    said.due("1201 hours", desk.goesIn(1), NONE);
    desk.pass(1);
    said.due("1200 hours, an hour later", desk.goesIn(1), 1200);
    desk.set(POST, 0);
    desk.write(1, 50, NONE);
    said.due("1201 hours to a post of the hour 0", desk.goesIn(2), NONE);
    desk.write(1, 49, NONE);
    said.due("1177 hours to a post of the hour 0", desk.goesIn(3), 1177);
    desk.set(COOLING, 0);
    said.due("it never cools", desk.goesIn(3), NONE);
    desk.set(COOL, 49);
    said.due("it need not cool", desk.goesIn(3), 2 * 24 + 1);
    desk.turn(1);
    said.due("it is locked for ever", desk.goesIn(3), NONE);
    desk.hours(1, 1, 0);
    said.due("it is locked at each post", desk.goesIn(3), NONE);
  }

  private static void bestPost() {
    Sentence said = new Sentence("Promise 16",
        "Finds the hour of the post, 0 to 23, by which the most letters would be sent in some days, of several "
        + "the lowest one");
    for (int hour = 0; hour < 24; hour++) {
      MoodDrawers desk = new MoodDrawers();
      desk.rest(0, 0);
      desk.write(0, 0, NONE);
      desk.turn(0);
      desk.hours(0, hour, (hour + 1) % 24);
      said.due("the only hour at which it is open", desk.bestPost(1, 0), hour);
      said.due("it goes", desk.bestPost(1, 1), 1);
    }
    MoodDrawers desk = new MoodDrawers();
    said.due("without letters", desk.bestPost(1, 0), 0);
    for (int mood = 0; mood < 3; mood++) {
      desk.rest(mood, 0);
      desk.turn(mood);
      desk.write(mood, 0, NONE);
    }
    desk.hours(0, 3, 7);
    desk.hours(1, 6, 10);
    desk.hours(2, 9, 12);
    said.due("two by the hour 6, two by the hour 9", desk.bestPost(1, 0), 6);
    said.due("two", desk.bestPost(1, 1), 2);
    desk.hours(0, 3, 6);
    said.due("two by the hour 9 alone", desk.bestPost(1, 0), 9);
    desk.hours(2, 20, 3);
    said.due("one by several hours", desk.bestPost(1, 0), 3);
    said.due("one by several hours, also by the hour 0 of the next day", desk.bestPost(2, 0), 0);
    desk.pass(4);
    said.due("the hour 0 of the next day is within a day now", desk.bestPost(1, 0), 0);
    said.due("nothing is changed by it", desk.count(7), 17);
  }

  private static void bestPostArguments() {
    Sentence days = new Sentence("Promise 16", "`days`: 1 to 20");
    Sentence what = new Sentence("Promise 16", "`what`: 0 the hour, 1 how many letters");
    Sentence number = new Sentence("Promise 16", "Returns the number");
    Sentence badValue = new Sentence("Promise 16", "BAD_VALUE if an argument is out of range");
    MoodDrawers desk = new MoodDrawers();
    desk.set(COOL, 0);
    desk.write(0, 0, NONE);
    desk.write(0, 95, NONE);
    desk.write(0, 96, NONE);
    desk.pass(6);
    days.due("within 1 day", desk.bestPost(1, 1), 0);
    days.due("within 2 days, up to the hour 5 of the day 2", desk.bestPost(2, 1), 1);
    days.due("within 18 days", desk.bestPost(18, 1), 1);
    days.due("within 19 days, up to the hour 5 of the day 19", desk.bestPost(19, 1), 2);
    days.due("within 20 days, up to the hour 5 of the day 20", desk.bestPost(20, 1), 3);
    what.due("the hour", desk.bestPost(20, 0), 0);
    what.due("how many letters", desk.bestPost(20, 1), 3);
    what.due("the hour, without a letter that goes", desk.bestPost(1, 0), 0);
    desk.turn(0);
    desk.hours(0, 9, 10);
    number.due("the only hour", desk.bestPost(3, 0), 9);
    number.due("one letter", desk.bestPost(3, 1), 1);
    for (int wrong : Checks.outside(1, 20)) {
      badValue.due("bestPost(" + wrong + ", 0)", desk.bestPost(wrong, 0), BAD_VALUE);
      badValue.due("bestPost(" + wrong + ", 1)", desk.bestPost(wrong, 1), BAD_VALUE);
    }
    for (int wrong : Checks.outside(0, 1)) {
      badValue.due("bestPost(1, " + wrong + ")", desk.bestPost(1, wrong), BAD_VALUE);
      badValue.due("bestPost(20, " + wrong + ")", desk.bestPost(20, wrong), BAD_VALUE);
    }
    badValue.due("bestPost(0, 2)", desk.bestPost(0, 2), BAD_VALUE);
  }

  private static void mostRegretted() {
    Sentence greatest = new Sentence("Promise 17",
        "Finds the letter that was sent with the greatest regret, of several the lowest one");
    Sentence returns = new Sentence("Promise 17", "Returns the letter");
    Sentence none = new Sentence("Promise 17", "NONE if none was sent");
    MoodDrawers desk = Checks.quickDesk();
    none.due("without letters", desk.mostRegretted(), NONE);
    desk.write(0, 99, NONE);
    none.due("one in a drawer", desk.mostRegretted(), NONE);
    desk.burn(0);
    none.due("a burnt one", desk.mostRegretted(), NONE);
    desk.write(0, 0, NONE);
    desk.write(1, 0, NONE);
    desk.pass(24);
    returns.due("a letter without regret, the lowest one that was sent", desk.mostRegretted(), 1);
    desk.write(2, 10, NONE);
    desk.write(3, 10, NONE);
    desk.pass(24);
    greatest.due("of two the lowest one", desk.mostRegretted(), 3);
    desk.write(4, 1, 4);
    desk.pass(24);
    greatest.due("half of 1 is nothing", desk.mostRegretted(), 3);
    desk.write(4, 2, 4);
    desk.pass(24);
    greatest.due("half of 2 is more", desk.mostRegretted(), 4);
    desk.write(5, 99, NONE);
    greatest.due("a hotter one in a drawer", desk.mostRegretted(), 4);
    desk.pass(24);
    returns.due("a hotter one that was sent", desk.mostRegretted(), 7);
    MoodDrawers full = Checks.fullDesk();
    full.pass(72);
    greatest.due("of 30 the lowest one", full.mostRegretted(), 0);
  }

  private static void ifSent() {
    Sentence tells = new Sentence("Promise 18",
        "Tells what the regret of a letter that was sent would be if a letter in a drawer was sent now with its "
        + "heat of now (whatever it answers: if no answers lead from it to the first one, the regret is as it is)");
    Sentence returns = new Sentence("Promise 18", "Returns the regret");
    MoodDrawers desk = Checks.quickDesk();
    desk.write(0, 10, NONE);
    desk.write(0, 40, NONE);
    desk.pass(24);
    desk.write(1, 20, 0);
    desk.write(1, 13, 0);
    desk.pass(24);
    desk.turn(2);
    desk.write(2, 94, 2);
    desk.write(2, 25, 0);
    desk.write(2, 26, 0);
    desk.write(2, 4, 3);
    desk.write(2, 99, NONE);
    desk.pass(24);
    tells.due("two answers lead there, heat 89", desk.ifSent(0, 4), 10 + (20 + 44) / 2);
    tells.due("an answer, as cool as the greatest one", desk.ifSent(0, 5), 10 + 10);
    tells.due("an answer, hotter by 1", desk.ifSent(0, 6), 10 + 10);
    tells.due("an answer of a smaller one", desk.ifSent(0, 7), 10 + 10);
    tells.due("one that answers none", desk.ifSent(0, 8), 10 + 10);
    tells.due("the answer that is between", desk.ifSent(2, 4), 20 + 44);
    returns.due("no answers lead to the other letter", desk.ifSent(1, 4), 40);
    returns.due("nor to an answer from one to the first", desk.ifSent(2, 5), 20);
    returns.due("the regret as it is", desk.ofLetter(0, 7), 10 + 10);
    desk.set(COOLING, 0);
    tells.due("hotter now", desk.ifSent(0, 4), 10 + (20 + 47) / 2);
    tells.due("an answer, hotter by 6", desk.ifSent(0, 6), 10 + 13);
    desk.set(COOLING, 20);
    desk.pass(240);
    tells.due("no heat is left", desk.ifSent(0, 4), 10 + 10);
    MoodDrawers first = Checks.quickDesk();
    first.write(0, 0, NONE);
    first.pass(24);
    first.write(0, 99, 0);
    tells.due("of no regret so far", first.ifSent(0, 1), 49);
  }

  private static void ifSentErrors() {
    Sentence noSuch = new Sentence("Promise 18", "NO_SUCH if there is no such letter");
    Sentence notPossible = new Sentence("Promise 18",
        "NOT_POSSIBLE if the first one was not sent, or the other one does not lie in a drawer");
    MoodDrawers desk = Checks.quickDesk();
    noSuch.due("ifSent(0, 0) without letters", desk.ifSent(0, 0), NO_SUCH);
    Checks.write(desk, 0, 3);
    desk.burn(2);
    desk.turn(1);
    desk.write(1, 5, NONE);
    desk.write(1, 5, NONE);
    desk.pass(24);
    noSuch.due("two letters", desk.ifSent(0, 3), 0);
    for (int letter : new int[] {NONE, 29, 30, 31, 32}) {
      noSuch.due("ifSent(" + letter + ", 3)", desk.ifSent(letter, 3), NO_SUCH);
      noSuch.due("ifSent(0, " + letter + ")", desk.ifSent(0, letter), NO_SUCH);
    }
    for (int letter : Checks.outside(0, 4)) {
      noSuch.due("ifSent(" + letter + ", 3)", desk.ifSent(letter, 3), NO_SUCH);
      noSuch.due("ifSent(0, " + letter + ")", desk.ifSent(0, letter), NO_SUCH);
    }
    notPossible.due("the first one in a drawer", desk.ifSent(3, 4), NOT_POSSIBLE);
    notPossible.due("the first one burnt", desk.ifSent(2, 3), NOT_POSSIBLE);
    notPossible.due("the other one sent", desk.ifSent(0, 1), NOT_POSSIBLE);
    notPossible.due("the other one burnt", desk.ifSent(0, 2), NOT_POSSIBLE);
    notPossible.due("a sent one twice", desk.ifSent(0, 0), NOT_POSSIBLE);
    notPossible.due("one in a drawer twice", desk.ifSent(3, 3), NOT_POSSIBLE);
    notPossible.due("one in a locked drawer lies in it", desk.ifSent(0, 4), 0);
  }
}
