/** What a desk tells of itself, as a text, so that two states can be compared. */
final class Told {
  /** How many ways to go on behind() knows. */
  static final int ENDINGS = 10;

  private Told() {
  }

  /** Everything that is undone, saved and restored. */
  static String state(MoodDrawers desk) {
    StringBuilder told = new StringBuilder();
    for (int what = 0; what < 10; what++) {
      told.append(desk.count(what)).append(' ');
    }
    for (int mood = 0; mood < 6; mood++) {
      for (int what = 0; what < 8; what++) {
        told.append(desk.ofDrawer(mood, what)).append(' ');
      }
    }
    int letters = desk.count(2);
    for (int letter = 0; letter < letters; letter++) {
      for (int what = 0; what < 10; what++) {
        told.append(desk.ofLetter(letter, what)).append(' ');
      }
    }
    return told.toString();
  }

  /** The state, and what can be asked of the pad and the history without a change. */
  static String all(MoodDrawers desk) {
    return state(desk) + "| " + desk.count(10) + ' ' + desk.fault() + ' ' + desk.count(11);
  }

  /** What cannot be asked is told by going on: undo() one to six times, either slot restored, the pad carried out. */
  static String behind(MoodDrawers desk, int ending) {
    if (ending == 0) {
      return all(desk);
    }
    int answer = 0;
    if (ending <= 6) {
      for (int times = 0; times < ending; times++) {
        answer = desk.undo();
      }
    } else {
      answer = ending <= 8 ? desk.restore(ending - 7) : desk.carryOut();
    }
    return answer + ": " + all(desk);
  }
}
