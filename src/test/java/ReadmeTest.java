import java.io.IOException;
import java.lang.reflect.Method;
import java.nio.file.Files;
import java.nio.file.Path;
import java.util.ArrayList;
import java.util.List;

/** README.md tells of each call, and its examples answer what it says there. */
public final class ReadmeTest {
  private static final MoodDrawers DESK = new MoodDrawers();
  /** The lines of the examples that tell an answer: the call, and the answer behind it. */
  private static final List<String> LINES = new ArrayList<>();

  public static void main(String[] args) throws IOException {
    List<String> readme = Files.readAllLines(Path.of("README.md"));
    for (String line : readme) {
      if (line.matches("[^`|]*desk\\..*;  // .*")) {
        LINES.add(line);
      }
    }
    letters();
    whatIf();
    texts();
    states();
    Checks.due("lines of the examples that were not tried " + LINES, LINES.size(), 0);
    eachCallIsTold(String.join("\n", readme));
    Checks.end("ReadmeTest");
  }

  private static void letters() {
    int letter = DESK.write(0, 40, MoodDrawers.NONE);
    dueNext("int letter = desk.write(0, 40, MoodDrawers.NONE);", letter);
    dueNext("desk.goesIn(letter);", DESK.goesIn(letter));
    dueNext("desk.pass(66);", DESK.pass(66));
    dueNext("desk.ofLetter(letter, 2);", DESK.ofLetter(letter, 2));
    dueNext("int answer = desk.write(3, 80, letter);", DESK.write(3, 80, letter));
    dueNext("desk.write(3, 100, letter);", DESK.write(3, 100, letter));
  }

  private static void whatIf() {
    dueNext("desk.ifSent(letter, answer);", DESK.ifSent(0, 1));
    dueNext("desk.bestPost(12, 1);", DESK.bestPost(12, 1));
    dueNext("desk.bestPost(12, 0);", DESK.bestPost(12, 0));
  }

  private static void texts() {
    dueNext("desk.put(0x6B333B74L);", DESK.put(0x6B333B74L));
    dueNext("desk.fault();", DESK.fault());
    dueNext("desk.put(0x3234L);", DESK.put(0x3234L));
    dueNext("desk.fault();", DESK.fault());
    dueNext("desk.carryOut();", DESK.carryOut());
    dueNext("desk.ofDrawer(3, 1);", DESK.ofDrawer(3, 1));
  }

  private static void states() {
    dueNext("desk.undo();", DESK.undo());
    dueNext("desk.ofDrawer(3, 1);", DESK.ofDrawer(3, 1));
    dueNext("desk.save(0);", DESK.save(0));
    dueNext("desk.burn(answer);", DESK.burn(1));
    dueNext("desk.restore(0);", DESK.restore(0));
    dueNext("desk.ofLetter(answer, 4);", DESK.ofLetter(1, 4));
  }

  private static void dueNext(String call, long got) {
    String line = LINES.isEmpty() ? "nothing" : LINES.remove(0);
    boolean told = line.matches("\\Q" + call + "\\E  // " + got + "[:,].*");
    Checks.due(call + " answers " + got + ", and the example tells that in '" + line + "'", told ? 1 : 0, 1);
  }

  private static void eachCallIsTold(String readme) {
    for (Method method : MoodDrawers.class.getDeclaredMethods()) {
      boolean told = readme.contains("| `" + method.getName() + "(");
      Checks.due(method + " is told of in README.md", told || java.lang.reflect.Modifier.isPrivate(
          method.getModifiers()) ? 1 : 0, 1);
    }
  }
}
