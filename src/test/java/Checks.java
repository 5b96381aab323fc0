/** What the tests share: counting the answers that are not due, and texts for the pad. */
final class Checks {
  private static int passed = 0;
  private static int failed = 0;

  private Checks() {
  }

  static void due(String call, long got, long want) {
    if (got == want) {
      passed++;
      return;
    }
    failed++;
    System.out.println(call + " answered " + got + ", due is " + want);
  }

  /** Prints the closing line, and ends the program with exit code 1 if a check failed. */
  static void end(String test) {
    System.out.println(test + ": " + passed + " checks held, " + failed + " did not");
    if (failed != 0) {
      System.exit(1);
    }
  }

  /** The number that tells put() these characters, 1 to 8 of them. */
  static long code(String characters) {
    long code = 0;
    for (int i = 0; i < characters.length(); i++) {
      code = code << 8 | characters.charAt(i);
    }
    return code;
  }

  /** Puts a text of any length on the pad, and returns what the last put() answered. */
  static int putText(MoodDrawers desk, String text) {
    int answer = 0;
    for (int from = 0; from < text.length(); from += 8) {
      answer = desk.put(code(text.substring(from, Math.min(from + 8, text.length()))));
    }
    return answer;
  }

  static void passDays(MoodDrawers desk, int days) {
    for (int day = 0; day < days; day++) {
      desk.pass(24);
    }
  }

  /** Passes the hours up to this one, in as many calls as they need. */
  static void passUntil(MoodDrawers desk, int day, int hour) {
    int hours = 24 * day + hour - 24 * desk.count(0) - desk.count(1);
    while (hours > 0) {
      int now = Math.min(hours, 240);
      desk.pass(now);
      hours -= now;
    }
  }

  /** A desk on which letters go on the day on which they are written. */
  static MoodDrawers quickDesk() {
    MoodDrawers desk = new MoodDrawers();
    for (int mood = 0; mood < 6; mood++) {
      desk.rest(mood, 0);
    }
    desk.set(MoodDrawers.COOL, 99);
    return desk;
  }

  /** What lies just outside of a range, and as far outside as an int can. */
  static int[] outside(int lowest, int highest) {
    return new int[] {lowest - 1, highest + 1, Integer.MIN_VALUE, Integer.MAX_VALUE};
  }

  /** So many letters without heat, which answer none, for one drawer. */
  static void write(MoodDrawers desk, int mood, int letters) {
    for (int letter = 0; letter < letters; letter++) {
      desk.write(mood, 0, MoodDrawers.NONE);
    }
  }

  /** A desk with 30 letters, five in each drawer. */
  static MoodDrawers fullDesk() {
    MoodDrawers desk = new MoodDrawers();
    for (int mood = 0; mood < 6; mood++) {
      write(desk, mood, 5);
    }
    return desk;
  }
}
