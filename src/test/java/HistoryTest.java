/** Promises 23 to 25: undo, save, restore. */
public final class HistoryTest {
  private static final int BAD_VALUE = MoodDrawers.BAD_VALUE;
  private static final int NOT_POSSIBLE = MoodDrawers.NOT_POSSIBLE;
  private static final int NONE = MoodDrawers.NONE;

  public static void main(String[] args) {
    undoKeepsSix();
    undoEachChange();
    errorsAreNotRecorded();
    errorsLeaveTheOldestState();
    undoLeavesPadAndSlots();
    save();
    restore();
    restoreOverOtherLetters();
    restoreIsAChange();
    Checks.end("HistoryTest");
  }

  private static void dueSame(String name, String got, String want) {
    Checks.due(name + ": " + got + " as " + want, got.equals(want) ? 1 : 0, 1);
  }

  private static void undoKeepsSix() {
    MoodDrawers desk = new MoodDrawers();
    Checks.due("nothing to undo", desk.undo(), NOT_POSSIBLE);
    for (int change = 1; change <= 20; change++) {
      desk.write(change % 6, change, NONE);
      Checks.due("kept", desk.count(11), Math.min(change, 6));
    }
    for (int left = 5; left >= 0; left--) {
      Checks.due("undo", desk.undo(), left);
      Checks.due("letters", desk.count(2), 14 + left);
      Checks.due("the last one", desk.ofLetter(13 + left, 1), 14 + left);
    }
    Checks.due("no more", desk.undo(), NOT_POSSIBLE);
    Checks.due("fourteen are left", desk.count(2), 14);
    Checks.due("write again", desk.write(0, 77, NONE), 14);
    Checks.due("undo it", desk.undo(), 0);
    Checks.due("fourteen again", desk.count(2), 14);
  }

  private static void undoEachChange() {
    for (int change = 0; change < 10; change++) {
      MoodDrawers desk = busyDesk();
      String before = Told.state(desk);
      Checks.due("change " + change + " is no error", change(desk, change) >= 0 ? 1 : 0, 1);
      Checks.due("undo of " + change, desk.undo(), 5);
      dueSame("undone " + change, Told.state(desk), before);
      Checks.due("undo of what was before", desk.undo(), 4);
    }
  }

  /** A desk with six changes to undo, letters of every kind, and a saved state. */
  private static MoodDrawers busyDesk() {
    MoodDrawers desk = new MoodDrawers();
    desk.rest(0, 0);
    desk.write(0, 20, NONE);
    desk.pass(24);
    desk.write(1, 90, 0);
    desk.write(2, 80, NONE);
    desk.burn(1);
    desk.save(0);
    desk.hours(3, 4, 5);
    desk.write(0, 10, 0);
    desk.turn(4);
    return desk;
  }

  private static int change(MoodDrawers desk, int change) {
    switch (change) {
      case 0: return desk.set(MoodDrawers.COOLING, 9);
      case 1: return desk.write(3, 3, 0);
      case 2: return desk.turn(2);
      case 3: return desk.rest(5, 5);
      case 4: return desk.hours(2, 10, 11);
      case 5: return desk.burn(2);
      case 6: return desk.pass(100);
      case 7: return desk.restore(0);
      case 8: return desk.hours(3, NONE, 0);
      default:
        Checks.putText(desk, "k0;t50;u31-2");
        return desk.carryOut();
    }
  }

  private static void errorsAreNotRecorded() {
    MoodDrawers desk = new MoodDrawers();
    desk.write(0, 1, NONE);
    desk.set(3, 0);
    desk.write(9, 1, NONE);
    desk.turn(9);
    desk.rest(0, 99);
    desk.hours(0, 3, 3);
    desk.burn(9);
    desk.pass(0);
    desk.carryOut();
    desk.restore(0);
    desk.restore(2);
    desk.put(0);
    Checks.due("one change alone", desk.count(11), 1);
    desk.set(0, 17);
    desk.rest(0, 2);
    desk.hours(0, NONE, NONE);
    Checks.due("changes that change nothing count", desk.count(11), 4);
    Checks.due("undo one", desk.undo(), 3);
    desk.save(1);
    desk.wipe();
    desk.fault();
    Checks.due("what is no change is not recorded", desk.count(11), 3);
  }

  private static void errorsLeaveTheOldestState() {
    MoodDrawers desk = new MoodDrawers();
    for (int change = 0; change < 12; change++) {
      desk.write(change % 6, change, NONE);
      desk.write(change % 6, 100, NONE);
    }
    for (int left = 5; left >= 0; left--) {
      Checks.due("undo with errors between", desk.undo(), left);
      Checks.due("letters with errors between", desk.count(2), 6 + left);
    }
  }

  private static void undoLeavesPadAndSlots() {
    MoodDrawers desk = new MoodDrawers();
    desk.write(0, 11, NONE);
    desk.write(0, 22, NONE);
    Checks.putText(desk, "k1");
    Checks.due("save two", desk.save(1), 2);
    Checks.due("undo", desk.undo(), 1);
    Checks.due("the pad stays", desk.count(10), 2);
    Checks.due("the slot stays", desk.restore(1), 2);
    Checks.due("restored", desk.ofLetter(1, 1), 22);
    Checks.due("carry out", desk.carryOut(), 1);
    Checks.due("undo the carrying out", desk.undo(), 2);
    Checks.due("the pad stays empty", desk.count(10), 0);
  }

  private static void save() {
    MoodDrawers desk = new MoodDrawers();
    for (int slot : new int[] {-1, 2, Integer.MIN_VALUE, Integer.MAX_VALUE}) {
      Checks.due("no such slot to save", desk.save(slot), BAD_VALUE);
      Checks.due("no such slot to restore", desk.restore(slot), BAD_VALUE);
    }
    Checks.due("save", desk.save(0), 0);
    Checks.due("save is no change", desk.count(11), 0);
    desk.write(0, 1, NONE);
    Checks.due("save in the other slot", desk.save(1), 1);
    desk.write(0, 2, NONE);
    Checks.due("restore none", desk.restore(0), 0);
    Checks.due("no letters", desk.count(2), 0);
    Checks.due("restore one", desk.restore(1), 1);
    desk.write(3, 3, NONE);
    Checks.due("overwrite", desk.save(0), 2);
    desk.write(3, 4, NONE);
    Checks.due("restore what was saved last", desk.restore(0), 2);
    Checks.due("the other slot is as it was", desk.restore(1), 1);
  }

  private static void restore() {
    String saved = Told.state(busyDesk());
    for (int change = 0; change < 10; change++) {
      MoodDrawers desk = busyDesk();
      desk.save(1);
      change(desk, change);
      Checks.due("restore behind " + change, desk.restore(1), 4);
      dueSame("restored behind " + change, Told.state(desk), saved);
    }
    MoodDrawers late = new MoodDrawers();
    late.save(0);
    Checks.passUntil(late, 999, 23);
    Checks.putText(late, "pad");
    Checks.due("restore the day 0", late.restore(0), 0);
    Checks.due("the day 0", late.count(0), 0);
    Checks.due("the pad stays", late.count(10), 3);
    Checks.due("hours can pass again", late.pass(240), 0);
    Checks.due("the other slot is empty", late.restore(1), NOT_POSSIBLE);
  }

  /** The letters of both states have the same numbers, and nothing else in common. */
  private static void restoreOverOtherLetters() {
    MoodDrawers desk = new MoodDrawers();
    desk.save(1);
    desk.rest(0, 0);
    desk.write(0, 20, NONE);
    desk.write(0, 30, NONE);
    desk.pass(48);
    desk.write(1, 66, 0);
    desk.write(2, 77, 1);
    desk.burn(3);
    desk.save(0);
    String saved = Told.state(desk);
    desk.restore(1);
    Checks.due("nothing is left", desk.count(2), 0);
    desk.write(3, 5, NONE);
    desk.write(4, 6, NONE);
    desk.write(5, 7, NONE);
    Checks.passUntil(desk, 7, 7);
    desk.write(5, 8, 1);
    String other = Told.state(desk);
    Checks.due("restore the first letters", desk.restore(0), 4);
    dueSame("the first letters", Told.state(desk), saved);
    desk.undo();
    dueSame("undone to the others", Told.state(desk), other);
  }

  private static void restoreIsAChange() {
    MoodDrawers desk = new MoodDrawers();
    desk.save(0);
    desk.write(0, 1, NONE);
    Checks.due("restore", desk.restore(0), 0);
    Checks.due("two changes", desk.count(11), 2);
    Checks.due("restore again", desk.restore(0), 0);
    Checks.due("three changes", desk.count(11), 3);
    desk.undo();
    Checks.due("undo the first restoring", desk.undo(), 1);
    Checks.due("the letter is back", desk.count(2), 1);
    Checks.due("undo the letter", desk.undo(), 0);
    Checks.due("the slot keeps what it has", desk.restore(0), 0);
    desk.write(0, 5, NONE);
    desk.write(0, 6, NONE);
    Checks.due("a change leaves the slot alone", desk.restore(0), 0);
  }
}
