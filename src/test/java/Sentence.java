import java.util.LinkedHashMap;
import java.util.Map;

/** A sentence of the document, told word by word, and the answers that it makes due. */
final class Sentence {
  /** How many answers were looked at for each sentence that has a test. */
  private static final Map<String, Integer> TESTED = new LinkedHashMap<>();

  private final String name;

  Sentence(String section, String words) {
    name = section + ": " + words;
    TESTED.putIfAbsent(name, 0);
  }

  static Map<String, Integer> tested() {
    return TESTED;
  }

  void due(String call, long got, long want) {
    TESTED.merge(name, 1, Integer::sum);
    Checks.due(got == want ? "" : "[" + name + "] " + call, got, want);
  }

  void dueSame(String call, String got, String want) {
    boolean same = got.equals(want);
    due(same ? "" : call + ": " + got + " as " + want, same ? 1 : 0, 1);
  }

  /** The call just made was one change: one state more is kept, and undo() brings back what was told before it. */
  void dueOneChange(MoodDrawers desk, String before, int keptBefore) {
    due("changes that can be undone", desk.count(11), keptBefore + 1);
    due("undo()", desk.undo(), keptBefore);
    dueSame("what is told behind undo()", Told.state(desk), before);
  }
}
