/** The sentences of the promises 23 to 25: undo, save, restore. */
final class HistorySentences {
  private static final String UNDOES =
      "Undoes the latest change: everything except the pad, the slots and the history is as it was before it";
  private static final String HISTORY = "A history of at most 6 states is kept: each method that is a change, and "
      + "returns no error, records the state before it (also if nothing is different then)";
  private static final int BAD_VALUE = MoodDrawers.BAD_VALUE;
  private static final int NOT_POSSIBLE = MoodDrawers.NOT_POSSIBLE;
  private static final int NONE = MoodDrawers.NONE;

  private HistorySentences() {
  }

  static void test() {
    undo();
    undoLeavesPadAndSlots();
    undoOfEachChange();
    historyOfSix();
    historyOfChanges();
    historyOfErrors();
    oldestIsDropped();
    ordersRecordNothing();
    undoAnswers();
    save();
    saveAnswers();
    restore();
    restoreAnswers();
  }

  /** A desk in which nothing is as at first, with letters of each kind and six states to undo. */
  private static MoodDrawers busyDesk() {
    MoodDrawers desk = new MoodDrawers();
    desk.set(MoodDrawers.POST, 3);
    desk.set(MoodDrawers.COOL, 40);
    desk.set(MoodDrawers.COOLING, 7);
    desk.rest(0, 0);
    desk.write(0, 40, NONE);
    desk.pass(28);
    desk.write(1, 60, 0);
    desk.write(2, 90, NONE);
    desk.burn(2);
    desk.hours(3, 5, 9);
    desk.turn(4);
    return desk;
  }

  private static int change(MoodDrawers desk, int kind) {
    switch (kind) {
      case 0: return desk.set(MoodDrawers.COOLING, 1);
      case 1: return desk.write(5, 8, 0);
      case 2: return desk.turn(1);
      case 3: return desk.rest(1, 9);
      case 4: return desk.hours(3, NONE, 0);
      case 5: return desk.burn(1);
      case 6: return desk.pass(240);
      case 7: return desk.restore(0);
      default:
        Checks.putText(desk, "k5;b1;t99;u01-2;+0:4");
        return desk.carryOut();
    }
  }

  private static void undo() {
    Sentence said = new Sentence("Promise 23", UNDOES);
    MoodDrawers desk = busyDesk();
    String before = Told.state(desk);
    desk.write(0, 9, 0);
    String written = Told.state(desk);
    desk.pass(100);
    said.due("undo() of pass", desk.undo(), 5);
    said.dueSame("ahead of pass", Told.state(desk), written);
    said.due("undo() of write", desk.undo(), 4);
    said.dueSame("ahead of write", Told.state(desk), before);
  }

  private static void undoLeavesPadAndSlots() {
    Sentence said = new Sentence("Promise 23", UNDOES);
    MoodDrawers desk = busyDesk();
    desk.write(0, 9, 0);
    Checks.putText(desk, "k1");
    said.due("save four letters", desk.save(1), 4);
    String saved = Told.state(desk);
    said.due("undo() of write", desk.undo(), 5);
    said.due("three letters", desk.count(2), 3);
    said.due("the pad stays", desk.count(10), 2);
    said.due("the slot stays", desk.restore(1), 4);
    said.dueSame("what was saved", Told.state(desk), saved);
    said.due("the pad's text stays", desk.carryOut(), 1);
    said.due("undo() of carryOut", desk.undo(), 5);
    said.due("the pad stays empty", desk.count(10), 0);
    said.due("the history goes on: undo() of restore", desk.undo(), 4);
    said.due("three letters again", desk.count(2), 3);
  }

  private static void undoOfEachChange() {
    Sentence said = new Sentence("Promise 23", UNDOES);
    for (int kind = 0; kind <= 8; kind++) {
      MoodDrawers desk = busyDesk();
      desk.save(0);
      desk.undo();
      String before = Told.state(desk);
      said.due("the change " + kind + " is no error", Math.min(change(desk, kind), 0), 0);
      said.dueOneChange(desk, before, 5);
    }
  }

  private static void historyOfSix() {
    Sentence said = new Sentence("Promise 23", HISTORY);
    for (int changes = 0; changes <= 8; changes++) {
      MoodDrawers desk = new MoodDrawers();
      for (int change = 0; change < changes; change++) {
        desk.write(change % 6, change, NONE);
      }
      int kept = Math.min(6, changes);
      said.due("kept of " + changes, desk.count(11), kept);
      for (int left = kept - 1; left >= 0; left--) {
        said.due("undo() of " + changes, desk.undo(), left);
        said.due("letters", desk.count(2), changes - kept + left);
      }
      said.due("undo() of none", desk.undo(), NOT_POSSIBLE);
      said.due("letters that stay", desk.count(2), changes - kept);
    }
    MoodDrawers same = new MoodDrawers();
    same.save(0);
    same.set(MoodDrawers.POST, 17);
    said.due("set that changes nothing", same.count(11), 1);
    same.rest(0, 2);
    said.due("rest that changes nothing", same.count(11), 2);
    same.hours(0, NONE, 5);
    said.due("hours that change nothing", same.count(11), 3);
    same.restore(0);
    said.due("restore that changes nothing", same.count(11), 4);
    Checks.putText(same, "t0");
    same.carryOut();
    said.due("carryOut that changes nothing", same.count(11), 5);
  }

  private static void historyOfChanges() {
    Sentence said = new Sentence("Promise 23", HISTORY);
    for (int kind = 0; kind <= 8; kind++) {
      MoodDrawers desk = busyDesk();
      desk.save(0);
      desk.undo();
      desk.undo();
      change(desk, kind);
      said.due("kept behind the change " + kind, desk.count(11), 5);
    }
    MoodDrawers desk = busyDesk();
    desk.undo();
    Checks.putText(desk, "k0");
    desk.save(0);
    desk.goesIn(1);
    desk.bestPost(3, 0);
    desk.mostRegretted();
    desk.ifSent(0, 1);
    desk.fault();
    desk.wipe();
    said.due("what is no change is not recorded", desk.count(11), 5);
    desk.undo();
    said.due("nor is undo", desk.count(11), 4);
  }

  private static void historyOfErrors() {
    Sentence said = new Sentence("Promise 23", HISTORY);
    MoodDrawers desk = new MoodDrawers();
    for (int letter = 0; letter < 9; letter++) {
      desk.write(0, letter, NONE);
      desk.set(0, 24);
      desk.write(1, 100, NONE);
      desk.turn(6);
      desk.rest(0, 31);
      desk.hours(0, 4, 4);
      desk.burn(30);
      desk.pass(241);
      desk.carryOut();
      desk.restore(1);
    }
    said.due("kept with errors between", desk.count(11), 6);
    for (int left = 5; left >= 0; left--) {
      said.due("undo() with errors between", desk.undo(), left);
      said.due("letters with errors between", desk.count(2), 2 + left);
    }
  }

  private static void oldestIsDropped() {
    Sentence said = new Sentence("Promise 23", "when one more is recorded, the oldest one is dropped");
    MoodDrawers desk = new MoodDrawers();
    for (int change = 1; change <= 40; change++) {
      desk.rest(0, change % 31);
      said.due("kept behind " + change, desk.count(11), Math.min(6, change));
    }
    for (int change = 39; change >= 34; change--) {
      said.due("undo()", desk.undo(), change - 34);
      said.due("the rest", desk.ofDrawer(0, 2), change % 31);
    }
    said.due("the older ones are dropped", desk.undo(), NOT_POSSIBLE);
    said.due("the rest as it was", desk.ofDrawer(0, 2), 34 % 31);
    for (int change = 1; change <= 7; change++) {
      desk.rest(1, change);
    }
    for (int change = 6; change >= 1; change--) {
      desk.undo();
      said.due("the rest of another", desk.ofDrawer(1, 2), change);
    }
    said.due("the first of seven is dropped", desk.undo(), NOT_POSSIBLE);
  }

  private static void ordersRecordNothing() {
    Sentence said = new Sentence("Promise 23", "An order of a text records nothing by itself");
    MoodDrawers desk = new MoodDrawers();
    desk.turn(5);
    Checks.putText(desk, "k1;k2;+0:0;b0;t1;u01-2;+1:1;t30;k3");
    said.due("carryOut()", desk.carryOut(), 9);
    said.due("two changes", desk.count(11), 2);
    said.due("undo()", desk.undo(), 1);
    said.due("only the drawer 5 is locked", desk.count(6), 1);
    said.due("no letter is written", desk.count(2), 0);
    said.due("undo()", desk.undo(), 0);
    said.due("no drawer is locked", desk.count(6), 0);
  }

  private static void undoAnswers() {
    Sentence returns = new Sentence("Promise 23", "Returns how many changes can be undone then");
    Sentence none = new Sentence("Promise 23", "NOT_POSSIBLE if there is none");
    MoodDrawers desk = new MoodDrawers();
    none.due("undo() at first", desk.undo(), NOT_POSSIBLE);
    desk.turn(9);
    desk.save(0);
    none.due("undo() behind an error and save", desk.undo(), NOT_POSSIBLE);
    for (int changes = 1; changes <= 6; changes++) {
      for (int change = 0; change < changes; change++) {
        desk.turn(0);
      }
      for (int left = changes - 1; left >= 0; left--) {
        returns.due("undo() of " + changes, desk.undo(), left);
        returns.due("what can be undone", desk.count(11), left);
      }
      none.due("undo() behind the last one", desk.undo(), NOT_POSSIBLE);
    }
  }

  private static void save() {
    Sentence said = new Sentence("Promise 24",
        "Saves everything except the pad, the history and the slots in a slot, and overwrites what was saved there");
    MoodDrawers desk = busyDesk();
    String busy = Told.state(desk);
    desk.save(0);
    desk.turn(3);
    desk.write(5, 5, NONE);
    String later = Told.state(desk);
    desk.save(1);
    desk.restore(0);
    said.dueSame("the slot 0", Told.state(desk), busy);
    desk.restore(1);
    said.dueSame("the slot 1", Told.state(desk), later);
    Checks.putText(desk, "k0;k1");
    said.due("changes are not saved", desk.count(11), 6);
    desk.save(0);
    desk.wipe();
    desk.undo();
    desk.restore(0);
    said.dueSame("the slot 0, overwritten", Told.state(desk), later);
    said.due("the pad is not saved", desk.count(10), 0);
    said.due("the history is not saved", desk.count(11), 6);
    MoodDrawers fresh = new MoodDrawers();
    String first = Told.state(fresh);
    fresh.save(0);
    fresh.turn(0);
    fresh.save(1);
    fresh.restore(0);
    said.dueSame("a desk without letters", Told.state(fresh), first);
    said.due("the slots are not saved", fresh.restore(1), 0);
    said.due("the slot 1 is as it was", fresh.ofDrawer(0, 1), 1);
  }

  private static void saveAnswers() {
    Sentence range = new Sentence("Promise 24", "`slot`: 0 or 1");
    Sentence returns = new Sentence("Promise 24", "Returns how many letters there are");
    Sentence badValue = new Sentence("Promise 24", "BAD_VALUE if there is no such slot");
    MoodDrawers desk = new MoodDrawers();
    range.due("save(0)", desk.save(0), 0);
    range.due("save(1)", desk.save(1), 0);
    range.due("save(-1)", desk.save(-1), BAD_VALUE);
    range.due("save(2)", desk.save(2), BAD_VALUE);
    for (int slot : Checks.outside(0, 1)) {
      badValue.due("save(" + slot + ")", desk.save(slot), BAD_VALUE);
    }
    desk.write(0, 0, NONE);
    desk.burn(0);
    returns.due("a burnt letter", desk.save(0), 1);
    returns.due("30 letters", Checks.fullDesk().save(0), 30);
    returns.due("save is no change", desk.count(11), 2);
  }

  private static void restore() {
    Sentence restores = new Sentence("Promise 25", "Restores what was saved last in a slot, which keeps it");
    Sentence change = new Sentence("Promise 25", "This is a change");
    String saved = Told.state(busyDesk());
    for (int kind = 0; kind <= 8; kind++) {
      MoodDrawers desk = busyDesk();
      desk.save(0);
      change(desk, kind);
      String changed = Told.state(desk);
      desk.undo();
      change(desk, kind);
      restores.due("restore(0) behind the change " + kind, desk.restore(0), 3);
      restores.dueSame("restored behind the change " + kind, Told.state(desk), saved);
      change.dueOneChange(desk, changed, 5);
    }
    MoodDrawers desk = new MoodDrawers();
    desk.save(1);
    desk.write(0, 1, NONE);
    desk.save(1);
    desk.write(0, 2, NONE);
    for (int times = 0; times < 3; times++) {
      restores.due("what was saved last", desk.restore(1), 1);
      desk.burn(0);
      restores.due("changed since", desk.ofLetter(0, 4), 2);
      restores.due("the slot keeps it", desk.restore(1), 1);
      restores.due("as it was saved", desk.ofLetter(0, 4), 0);
      desk.undo();
    }
    Checks.passUntil(desk, 999, 23);
    desk.restore(1);
    restores.due("the day of the first hours", desk.count(0), 0);
    restores.due("hours pass again, and its letter goes", desk.pass(240), 1);
    restoreOverOthers(restores);
  }

  /** Both states have letters of the same numbers, and nothing else is alike. */
  private static void restoreOverOthers(Sentence restores) {
    MoodDrawers desk = new MoodDrawers();
    desk.save(0);
    desk.pass(49);
    desk.write(5, 55, NONE);
    desk.write(4, 44, NONE);
    desk.write(3, 33, NONE);
    desk.burn(0);
    desk.pass(90);
    desk.save(1);
    String others = Told.state(desk);
    desk.restore(0);
    desk.write(0, 30, NONE);
    desk.pass(66);
    desk.write(1, 21, 0);
    desk.pass(48);
    desk.write(2, 12, 1);
    String own = Told.state(desk);
    restores.due("restore the others", desk.restore(1), 3);
    restores.dueSame("the others", Told.state(desk), others);
    desk.undo();
    restores.dueSame("undone again", Told.state(desk), own);
  }

  private static void restoreAnswers() {
    Sentence range = new Sentence("Promise 25", "`slot`: 0 or 1");
    Sentence returns = new Sentence("Promise 25", "Returns how many letters there are then");
    Sentence badValue = new Sentence("Promise 25", "BAD_VALUE if there is no such slot");
    Sentence notPossible = new Sentence("Promise 25", "NOT_POSSIBLE if nothing was saved in it");
    MoodDrawers desk = new MoodDrawers();
    notPossible.due("restore(0) at first", desk.restore(0), NOT_POSSIBLE);
    notPossible.due("restore(1) at first", desk.restore(1), NOT_POSSIBLE);
    desk.save(1);
    notPossible.due("restore(0), as only the slot 1 was saved in", desk.restore(0), NOT_POSSIBLE);
    range.due("restore(1)", desk.restore(1), 0);
    desk.save(0);
    desk.write(0, 0, NONE);
    range.due("restore(0)", desk.restore(0), 0);
    range.due("restore(-1)", desk.restore(-1), BAD_VALUE);
    range.due("restore(2)", desk.restore(2), BAD_VALUE);
    for (int slot : Checks.outside(0, 1)) {
      badValue.due("restore(" + slot + ")", desk.restore(slot), BAD_VALUE);
      badValue.due("restore(" + slot + ") of a new desk", new MoodDrawers().restore(slot), BAD_VALUE);
    }
    MoodDrawers full = Checks.fullDesk();
    full.save(1);
    full.undo();
    full.undo();
    full.save(0);
    returns.due("30 letters", full.restore(1), 30);
    returns.due("letters", full.count(2), 30);
    returns.due("28 letters", full.restore(0), 28);
    returns.due("letters again", full.count(2), 28);
    desk.undo();
    returns.due("a desk without letters", desk.restore(0), 0);
  }
}
