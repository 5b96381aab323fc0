import java.io.IOException;
import java.nio.file.Files;
import java.nio.file.Path;
import java.util.ArrayList;
import java.util.List;

/** The sentences of DOC.md that promise something, each one behind the name of its section. */
final class Document {
  private static final Path PLACE = Path.of("../shared/DOC.md");
  /** What these begin tells nothing that a call could answer. */
  private static final String[] NOT_ASKED = {
      "What it is: A writing desk", "What it is: what later calls answer", "Terms: CONVENTIONS",
      "The interface: Ahead of the calls", "Not promised: "};

  private Document() {
  }

  static boolean isThere() {
    return Files.isReadable(PLACE);
  }

  static List<String> sentences() throws IOException {
    List<String> found = new ArrayList<>();
    String section = "";
    boolean code = false;
    for (String line : Files.readAllLines(PLACE)) {
      if (line.startsWith("```")) {
        code = !code;
      } else if (line.startsWith("#")) {
        section = line.replaceFirst("^#+ ", "").replaceFirst(":.*", "");
      } else if (!code && !line.isBlank()) {
        // What the document tells of the interface stands behind the texts without a heading.
        section = line.startsWith("The constants: ") ? "The interface" : section;
        addSentences(found, section, line);
      }
    }
    return found;
  }

  /** A line without its bullet or the method's head is cut behind each point and semicolon outside of brackets. */
  private static void addSentences(List<String> found, String section, String line) {
    String text = line.replaceFirst("^(- |[0-9]\\. )", "").replaceFirst("^`[^`]*\\([^`]*`: ", "");
    for (String sentence : text.split("(?<=[.;]) (?![^(]*\\))")) {
      String named = section + ": " + sentence.replaceFirst("[.;:]$", "");
      if (isAsked(named)) {
        found.add(named);
      }
    }
  }

  private static boolean isAsked(String named) {
    for (String begin : NOT_ASKED) {
      if (named.startsWith(begin)) {
        return false;
      }
    }
    return true;
  }
}
