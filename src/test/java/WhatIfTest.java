/** Promises 15 to 18: goesIn, bestPost, mostRegretted, ifSent. */
public final class WhatIfTest {
  private static final int NO_SUCH = MoodDrawers.NO_SUCH;
  private static final int BAD_VALUE = MoodDrawers.BAD_VALUE;
  private static final int NOT_POSSIBLE = MoodDrawers.NOT_POSSIBLE;
  private static final int NONE = MoodDrawers.NONE;

  public static void main(String[] args) {
    goesIn();
    goesInByHours();
    goesInUpTo1200();
    bestPost();
    bestPostByHours();
    mostRegretted();
    ifSent();
    nothingChanges();
    Checks.end("WhatIfTest");
  }

  private static void goesIn() {
    MoodDrawers desk = new MoodDrawers();
    Checks.due("no letter yet", desk.goesIn(0), NO_SUCH);
    desk.write(0, 0, NONE);
    desk.write(1, 45, NONE);
    desk.write(2, 0, NONE);
    desk.rest(3, 0);
    desk.write(3, 30, NONE);
    desk.turn(2);
    Checks.due("as long as it rests", desk.goesIn(0), 48 + 18);
    Checks.due("as long as it cools", desk.goesIn(1), 72 + 18);
    Checks.due("locked", desk.goesIn(2), NONE);
    Checks.due("today", desk.goesIn(3), 18);
    desk.pass(17);
    Checks.due("within the hour", desk.goesIn(3), 1);
    Checks.due("pass it", desk.pass(1), 1);
    Checks.due("sent", desk.goesIn(3), 0);
    Checks.due("some hours less", desk.goesIn(0), 48);
    desk.write(3, 31, NONE);
    Checks.due("behind the post of today", desk.goesIn(4), 24);
    desk.burn(4);
    Checks.due("burnt", desk.goesIn(4), NOT_POSSIBLE);
    for (int letter : new int[] {-1, NONE, 5, 30, Integer.MIN_VALUE, Integer.MAX_VALUE}) {
      Checks.due("no such letter", desk.goesIn(letter), NO_SUCH);
    }
    desk.set(MoodDrawers.COOLING, 0);
    Checks.due("never cool enough", desk.goesIn(1), NONE);
    desk.set(MoodDrawers.COOL, 44);
    Checks.due("never cool enough by 1", desk.goesIn(1), NONE);
    desk.set(MoodDrawers.COOL, 45);
    Checks.due("just cool enough", desk.goesIn(1), 48);
    Checks.due("cool enough as it is", desk.goesIn(0), 48);
    desk.set(MoodDrawers.POST, 18);
    Checks.due("a later post", desk.goesIn(0), 49);
  }

  private static void goesInByHours() {
    MoodDrawers desk = new MoodDrawers();
    desk.rest(0, 0);
    desk.write(0, 0, NONE);
    desk.hours(0, 17, 18);
    desk.turn(0);
    Checks.due("unlocked at the very hour", desk.goesIn(0), 18);
    desk.hours(0, 0, 20);
    Checks.due("unlocked at the hour of now", desk.goesIn(0), 18);
    desk.hours(0, 16, 17);
    Checks.due("locked at the very hour", desk.goesIn(0), NONE);
    desk.turn(0);
    desk.hours(0, 19, 18);
    Checks.due("locked behind it", desk.goesIn(0), 18);
    desk.hours(0, 3, 9);
    Checks.due("locked on every day", desk.goesIn(0), NONE);
    desk.hours(0, 20, 0);
    Checks.due("locked at the hour of now", desk.goesIn(0), NONE);
    desk.hours(0, 9, 3);
    Checks.due("unlocked again ahead of it", desk.goesIn(0), 18);
    Checks.passUntil(desk, 0, 12);
    desk.hours(0, 3, 9);
    Checks.due("open on this day alone", desk.goesIn(0), 6);
    desk.turn(0);
    Checks.due("locked on this day, and on every later one", desk.goesIn(0), NONE);
    desk.hours(0, 9, 3);
    Checks.due("locked on this day alone", desk.goesIn(0), 6 + 24);
    desk.turn(0);
    desk.rest(0, 1);
    desk.hours(0, 3, 9);
    Checks.due("open on the day that is too early", desk.goesIn(0), NONE);
    Checks.due("so it stays", desk.pass(240), 0);
  }

  private static void goesInUpTo1200() {
    MoodDrawers desk = new MoodDrawers();
    desk.set(MoodDrawers.COOL, 0);
    desk.set(MoodDrawers.COOLING, 1);
    desk.write(0, 49, NONE);
    desk.write(0, 50, NONE);
    Checks.due("the most", desk.goesIn(0), 1194);
    Checks.due("above the most", desk.goesIn(1), NONE);
    desk.set(MoodDrawers.POST, 23);
    Checks.due("1200 itself", desk.goesIn(0), 1200);
    desk.pass(1);
    Checks.due("1199", desk.goesIn(0), 1199);
    desk.pass(23);
    Checks.due("1200 itself again", desk.goesIn(1), 1200);
  }

  private static void bestPost() {
    MoodDrawers desk = new MoodDrawers();
    for (int[] wrong : new int[][] {{0, 0}, {21, 0}, {-1, 1}, {1, -1}, {1, 2}, {Integer.MIN_VALUE, 0},
        {Integer.MAX_VALUE, 1}, {20, Integer.MAX_VALUE}, {20, Integer.MIN_VALUE}}) {
      Checks.due("bestPost out of range", desk.bestPost(wrong[0], wrong[1]), BAD_VALUE);
    }
    Checks.due("without letters", desk.bestPost(20, 0), 0);
    Checks.due("none without letters", desk.bestPost(20, 1), 0);
    desk.write(0, 30, NONE);
    desk.write(1, 45, NONE);
    desk.write(2, 45, NONE);
    desk.burn(2);
    int[] due = {0, 0, 0, 1, 2, 2};
    for (int days = 1; days < due.length; days++) {
      Checks.due("in " + days + " days the hour", desk.bestPost(days, 0), 0);
      Checks.due("in " + days + " days the number", desk.bestPost(days, 1), due[days]);
    }
    desk.pass(6);
    Checks.due("hours ahead of now reach a day more", desk.bestPost(3, 0), 0);
    Checks.due("both go by them", desk.bestPost(3, 1), 2);
    Checks.due("within two days the hours ahead of now alone", desk.bestPost(2, 0), 0);
    Checks.due("one goes by them", desk.bestPost(2, 1), 1);
    Checks.passUntil(desk, 4, 9);
    desk.write(3, 30, NONE);
    desk.rest(3, 0);
    desk.write(4, 30, NONE);
    Checks.due("one that waits has gone", desk.count(4), 2);
    Checks.due("any hour", desk.bestPost(20, 0), 0);
    Checks.due("any hour sends both", desk.bestPost(20, 1), 2);
  }

  private static void bestPostByHours() {
    MoodDrawers desk = new MoodDrawers();
    for (int mood = 0; mood < 4; mood++) {
      desk.rest(mood, 0);
      desk.write(mood, 0, NONE);
      desk.turn(mood);
    }
    desk.hours(0, 5, 9);
    desk.hours(1, 8, 20);
    desk.hours(2, 21, 9);
    Checks.due("the lowest hour at which all three are open", desk.bestPost(2, 0), 8);
    Checks.due("all three", desk.bestPost(2, 1), 3);
    Checks.due("one alone is open on the first day by the hours 5 to 7", desk.bestPost(1, 0), 8);
    Checks.due("two on the first day", desk.bestPost(1, 1), 2);
    desk.turn(3);
    Checks.due("one more, whatever the hour", desk.bestPost(1, 1), 3);
  }

  private static void mostRegretted() {
    MoodDrawers desk = new MoodDrawers();
    Checks.due("without letters", desk.mostRegretted(), NONE);
    for (int mood = 0; mood < 6; mood++) {
      desk.rest(mood, 0);
    }
    desk.write(0, 99, NONE);
    desk.write(1, 0, NONE);
    desk.write(2, 0, NONE);
    desk.burn(1);
    Checks.due("none was sent", desk.mostRegretted(), NONE);
    desk.pass(24);
    Checks.due("one with no regret", desk.mostRegretted(), 2);
    desk.write(3, 20, NONE);
    desk.write(4, 20, NONE);
    desk.pass(24);
    Checks.due("of several the lowest", desk.mostRegretted(), 3);
    desk.write(5, 2, 4);
    desk.pass(24);
    Checks.due("by its answer", desk.mostRegretted(), 4);
    desk.write(5, 25, 3);
    desk.turn(5);
    desk.pass(24);
    Checks.due("an answer that was not sent counts for nothing", desk.mostRegretted(), 4);
    desk.turn(5);
    desk.pass(24);
    Checks.due("it is cooler when it is sent", desk.ofLetter(3, 7), 30);
    Checks.due("by the greater answer", desk.mostRegretted(), 3);
  }

  private static void ifSent() {
    MoodDrawers desk = new MoodDrawers();
    Checks.due("without letters", desk.ifSent(0, 0), NO_SUCH);
    desk.set(MoodDrawers.COOL, 99);
    for (int mood = 0; mood < 6; mood++) {
      desk.rest(mood, 0);
    }
    desk.write(0, 10, NONE);
    desk.pass(24);
    desk.write(0, 20, 0);
    desk.write(1, 31, 0);
    desk.pass(24);
    desk.turn(2);
    desk.write(2, 80, 1);
    desk.write(2, 5, 0);
    desk.write(2, 99, NONE);
    desk.pass(24);
    Checks.due("as it is", desk.ofLetter(0, 7), 10 + 15);
    Checks.due("two answers deep, with its heat of now", desk.ifSent(0, 3), 10 + (20 + 37) / 2);
    Checks.due("one answer deep", desk.ifSent(1, 3), 20 + 37);
    Checks.due("no answers lead there", desk.ifSent(2, 3), 31);
    Checks.due("less than what is there", desk.ifSent(0, 4), 25);
    Checks.due("one that answers none", desk.ifSent(0, 5), 25);
    Checks.due("the first one was not sent", desk.ifSent(3, 4), NOT_POSSIBLE);
    Checks.due("the other one was sent", desk.ifSent(0, 1), NOT_POSSIBLE);
    Checks.due("the same one", desk.ifSent(0, 0), NOT_POSSIBLE);
    Checks.due("the same one in a drawer", desk.ifSent(3, 3), NOT_POSSIBLE);
    desk.turn(2);
    desk.burn(4);
    Checks.due("the other one is burnt", desk.ifSent(0, 4), NOT_POSSIBLE);
    Checks.due("the first one is burnt", desk.ifSent(4, 3), NOT_POSSIBLE);
    for (int letter : new int[] {-1, NONE, 6, 30, Integer.MIN_VALUE, Integer.MAX_VALUE}) {
      Checks.due("no such first letter", desk.ifSent(letter, 3), NO_SUCH);
      Checks.due("no such other letter", desk.ifSent(0, letter), NO_SUCH);
      Checks.due("no letter is ahead of what was not sent", desk.ifSent(3, letter), NO_SUCH);
    }
    Checks.due("nothing is sent", desk.ofLetter(0, 7), 25);
  }

  private static void nothingChanges() {
    MoodDrawers desk = new MoodDrawers();
    desk.write(0, 40, NONE);
    desk.hours(0, 4, 18);
    desk.goesIn(0);
    desk.bestPost(20, 0);
    desk.mostRegretted();
    desk.ifSent(0, 0);
    int[] due = {0, 0, 1, 1, 0, 0, 0, 17, 30, 5, 0, 2};
    for (int what = 0; what < due.length; what++) {
      Checks.due("behind what-ifs: count(" + what + ")", desk.count(what), due[what]);
    }
  }
}
