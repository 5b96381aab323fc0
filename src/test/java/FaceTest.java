import java.lang.reflect.Constructor;
import java.lang.reflect.Field;
import java.lang.reflect.Method;
import java.lang.reflect.Modifier;
import java.util.ArrayList;
import java.util.Collections;
import java.util.List;

/** The face has the document's members, with their types, and no other one that can be seen from outside. */
public final class FaceTest {
  private static final String[] MEMBERS = {
      "MoodDrawers()",
      "int bestPost(int,int)", "int burn(int)", "int carryOut()", "int count(int)", "int fault()", "int goesIn(int)",
      "int hours(int,int,int)", "int ifSent(int,int)", "int mostRegretted()", "int ofDrawer(int,int)",
      "int ofLetter(int,int)", "int pass(int)", "int put(long)", "int rest(int,int)", "int restore(int)",
      "int save(int)", "int set(int,int)", "int share()", "int turn(int)", "int undo()", "int wipe()",
      "int write(int,int,int)", "long letters(int)", "long meanHeat()",
      "BAD_TEXT = -3", "BAD_VALUE = -2", "COOL = 1", "COOLING = 2", "NONE = -6", "NOT_POSSIBLE = -5", "NO_SUCH = -1",
      "POST = 0", "TOO_MANY = -4"};

  public static void main(String[] args) throws IllegalAccessException {
    List<String> due = new ArrayList<>(List.of(MEMBERS));
    List<String> got = members();
    Collections.sort(due);
    Collections.sort(got);
    Checks.due("the face " + got + " as told", got.equals(due) ? 1 : 0, 1);
    Checks.due("the class is public and final", MoodDrawers.class.getModifiers() & (Modifier.PUBLIC | Modifier.FINAL),
        Modifier.PUBLIC | Modifier.FINAL);
    for (Class<?> inside : MoodDrawers.class.getDeclaredClasses()) {
      int modifiers = inside.getModifiers();
      Checks.due(inside + " is private", Modifier.isPrivate(modifiers) ? 1 : 0, 1);
      Checks.due(inside + " is static", Modifier.isStatic(modifiers) ? 1 : 0, 1);
    }
    privateMethodsHaveNamesOfTheirOwn();
    Checks.end("FaceTest");
  }

  private static List<String> members() throws IllegalAccessException {
    List<String> found = new ArrayList<>();
    for (Constructor<?> made : MoodDrawers.class.getDeclaredConstructors()) {
      found.add("MoodDrawers" + types(made.getParameterTypes()));
    }
    for (Method method : MoodDrawers.class.getDeclaredMethods()) {
      if (!Modifier.isPrivate(method.getModifiers())) {
        found.add(method.getReturnType() + " " + method.getName() + types(method.getParameterTypes()));
      }
    }
    for (Field field : MoodDrawers.class.getDeclaredFields()) {
      if (!Modifier.isPrivate(field.getModifiers())) {
        found.add(field.getName() + " = " + field.getInt(null));
      }
    }
    return found;
  }

  private static String types(Class<?>[] types) {
    List<String> names = new ArrayList<>();
    for (Class<?> type : types) {
      names.add(type.getName());
    }
    return "(" + String.join(",", names) + ")";
  }

  private static void privateMethodsHaveNamesOfTheirOwn() {
    List<String> visible = new ArrayList<>();
    for (Method method : MoodDrawers.class.getDeclaredMethods()) {
      if (!Modifier.isPrivate(method.getModifiers())) {
        visible.add(method.getName());
      }
    }
    for (Method method : MoodDrawers.class.getDeclaredMethods()) {
      if (Modifier.isPrivate(method.getModifiers())) {
        Checks.due(method + " has a name of its own", visible.contains(method.getName()) ? 1 : 0, 0);
      }
    }
  }
}
