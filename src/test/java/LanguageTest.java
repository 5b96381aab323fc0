import java.io.DataInputStream;
import java.io.IOException;
import java.io.InputStream;
import java.lang.reflect.Field;
import java.lang.reflect.Method;
import java.lang.reflect.Modifier;
import java.nio.file.Files;
import java.nio.file.Path;
import java.util.ArrayList;
import java.util.List;
import java.util.Set;
import java.util.regex.Pattern;

/** What of LANGUAGE.md can be read from the class: which parts of the library it reaches for, and its shape. */
public final class LanguageTest {
  private static final Path SOURCE = Path.of("src/main/java/MoodDrawers.java");
  private static final Set<String> LIBRARY = Set.of("java/lang/Object.<init>", "java/lang/System.arraycopy",
      "java/lang/Math.min", "java/lang/Math.max", "java/lang/Math.floorMod", "java/lang/Long.bitCount");
  private static final Set<Class<?>> STATIC_TYPES = Set.of(int.class, long.class, boolean.class, char.class,
      String.class, int[].class, long[].class, char[].class, byte[].class);
  private static final Pattern WORDS_NOT_USED = Pattern.compile(
      "\\b(package|import|throw|catch|finally|synchronized|assert|instanceof|volatile|transient|native)\\b|->|::|@");
  private static final Pattern METHOD = Pattern.compile("( +)[^ ].*\\) \\{");

  // The tags of a class file's constants.
  private static final int TEXT = 1, INT = 3, FLOAT = 4, LONG = 5, DOUBLE = 6, CLASS = 7, STRING = 8;
  private static final int FIELD = 9, METHOD_OF_CLASS = 10, METHOD_OF_INTERFACE = 11, NAME_AND_TYPE = 12;

  public static void main(String[] args) throws IOException {
    List<Class<?>> classes = new ArrayList<>(List.of(MoodDrawers.class.getDeclaredClasses()));
    classes.add(MoodDrawers.class);
    dueAtMost("classes of the file", classes.size(), 12);
    for (Class<?> one : classes) {
      reachesOnlyForItsPartOfTheLibrary(one);
      hasNoOtherStaticState(one);
      isSmall(one);
    }
    List<String> source = Files.readAllLines(SOURCE);
    usesNoOtherWords(source);
    methodsAreShort(source);
    Checks.end("LanguageTest");
  }

  private static void dueAtMost(String what, int got, int most) {
    Checks.due(what + ", " + got + ", are at most " + most, got <= most ? 1 : 0, 1);
  }

  private static void reachesOnlyForItsPartOfTheLibrary(Class<?> one) throws IOException {
    try (InputStream file = one.getResourceAsStream(one.getName() + ".class");
        DataInputStream bytes = new DataInputStream(file)) {
      bytes.readInt();
      bytes.readInt();
      int size = bytes.readUnsignedShort();
      int[][] constants = new int[size][];
      String[] texts = new String[size];
      for (int at = 1; at < size; at++) {
        constants[at] = constant(bytes, texts, at);
        // These two take two places each.
        at += constants[at][0] == LONG || constants[at][0] == DOUBLE ? 1 : 0;
      }
      for (int[] constant : constants) {
        if (constant != null && constant[0] >= FIELD && constant[0] <= METHOD_OF_INTERFACE) {
          String owner = texts[constants[constant[1]][1]];
          String member = owner + "." + texts[constants[constant[2]][1]];
          boolean own = owner.startsWith("MoodDrawers") || owner.startsWith("[");
          Checks.due(one + " reaches for " + member, own || LIBRARY.contains(member) ? 1 : 0, 1);
        }
      }
    }
  }

  /** The tag and the numbers behind it; calls that are linked when they run (lambdas, texts joined by +) are refused. */
  private static int[] constant(DataInputStream bytes, String[] texts, int at) throws IOException {
    int tag = bytes.readUnsignedByte();
    switch (tag) {
      case TEXT: texts[at] = bytes.readUTF(); return new int[] {tag};
      case INT: case FLOAT: bytes.readInt(); return new int[] {tag};
      case LONG: case DOUBLE: bytes.readLong(); return new int[] {tag};
      case CLASS: case STRING: return new int[] {tag, bytes.readUnsignedShort()};
      case FIELD: case METHOD_OF_CLASS: case METHOD_OF_INTERFACE: case NAME_AND_TYPE:
        return new int[] {tag, bytes.readUnsignedShort(), bytes.readUnsignedShort()};
      default: throw new IOException("a constant of the kind " + tag + " in the class file");
    }
  }

  private static void hasNoOtherStaticState(Class<?> one) {
    for (Field field : one.getDeclaredFields()) {
      if (Modifier.isStatic(field.getModifiers())) {
        Checks.due(field + " is final", Modifier.isFinal(field.getModifiers()) ? 1 : 0, 1);
        Checks.due(field + " has a type of rule 5", STATIC_TYPES.contains(field.getType()) ? 1 : 0, 1);
      }
    }
  }

  private static void isSmall(Class<?> one) {
    int fields = 0;
    for (Field field : one.getDeclaredFields()) {
      fields += Modifier.isStatic(field.getModifiers()) ? 0 : 1;
    }
    dueAtMost("fields of " + one, fields, 20);
    for (Method method : one.getDeclaredMethods()) {
      dueAtMost("parameters of " + method, method.getParameterCount(), 7);
    }
  }

  private static void usesNoOtherWords(List<String> source) {
    for (String line : source) {
      String code = line.replaceFirst("^ *(/?\\*|//).*", "").replaceFirst(" // .*", "");
      Checks.due("the line '" + line + "' has such words", WORDS_NOT_USED.matcher(code).find() ? 1 : 0, 0);
    }
  }

  /** The lines of a method stand between its head and the brace below the head's first sign. */
  private static void methodsAreShort(List<String> source) {
    for (int at = 0; at < source.size(); at++) {
      var head = METHOD.matcher(source.get(at));
      if (head.matches()) {
        int end = at + source.subList(at, source.size()).indexOf(head.group(1) + "}");
        dueAtMost("lines of" + source.get(at), end - at + 1, 60);
      }
    }
  }
}
