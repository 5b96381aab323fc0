import java.util.Random;

/** Runs of 512 calls, chosen by seeds, on MoodDrawers and on PlainDesk: both have to answer alike. */
public final class ModelTest {
  private static final int RUNS = 600;
  private static final int CALLS = 512;
  private static final int CALL_KINDS = 28;
  private static final int[] EXTREMES = {Integer.MIN_VALUE, Integer.MAX_VALUE, -1, -2, -5, -6, -7, 30, 31, 100, 240, 241};

  private final Random random;
  private final MoodDrawers desk = new MoodDrawers();
  private final PlainDesk plain = new PlainDesk();
  /** How this run is: long ones pass more hours, heedless ones have more wrong arguments. */
  private final int wrongIn;
  private final int passesMost;

  private ModelTest(long seed) {
    random = new Random(seed);
    wrongIn = 5 + random.nextInt(40);
    passesMost = random.nextInt(4) == 0 ? 240 : 30;
  }

  public static void main(String[] args) {
    for (int run = 0; run < RUNS; run++) {
      ModelTest test = new ModelTest(run);
      for (int call = 0; call < CALLS; call++) {
        test.call("run " + run + ", call " + call + ": ");
      }
    }
    Checks.end("ModelTest");
  }

  private int upTo(int most) {
    if (random.nextInt(wrongIn) == 0) {
      return random.nextBoolean() ? most + 1 : EXTREMES[random.nextInt(EXTREMES.length)];
    }
    return random.nextInt(most + 1);
  }

  private int letter() {
    return upTo(Math.max(0, desk.count(2) - 1));
  }

  private int letterOrNone() {
    if (random.nextInt(3) == 0) {
      return -6;
    }
    long sent = desk.letters(1);
    for (int tries = 0; tries < 20; tries++) {
      int letter = random.nextInt(30);
      if ((sent >>> letter & 1) == 1) {
        return letter;
      }
    }
    return random.nextInt(4) == 0 ? letter() : -6;
  }

  private void call(String where) {
    int kind = random.nextInt(CALL_KINDS + 12);
    int a;
    int b;
    switch (kind) {
      case 0: a = upTo(2); b = upTo(new int[] {23, 99, 20}[Math.floorMod(a, 3)]); due(where, "set", a, b, desk.set(a, b), plain.set(a, b)); break;
      case 1: a = upTo(5); due(where, "turn", a, 0, desk.turn(a), plain.turn(a)); break;
      case 2: a = upTo(5); b = upTo(random.nextBoolean() ? 3 : 30); due(where, "rest", a, b, desk.rest(a, b), plain.rest(a, b)); break;
      case 3: callHours(where); break;
      case 4: a = letter(); due(where, "burn", a, 0, desk.burn(a), plain.burn(a)); break;
      case 5: case 6: a = 1 + upTo(passesMost - 1); due(where, "pass", a, 0, desk.pass(a), plain.pass(a)); break;
      case 7: case 8: a = letter(); b = upTo(9); due(where, "ofLetter", a, b, desk.ofLetter(a, b), plain.ofLetter(a, b)); break;
      case 9: case 10: a = upTo(5); b = upTo(7); due(where, "ofDrawer", a, b, desk.ofDrawer(a, b), plain.ofDrawer(a, b)); break;
      case 11: case 12: a = upTo(3); due(where, "letters", a, 0, desk.letters(a), plain.letters(a)); break;
      case 13: a = upTo(11); due(where, "count", a, 0, desk.count(a), plain.count(a)); break;
      case 14: due(where, "meanHeat", 0, 0, desk.meanHeat(), plain.meanHeat()); break;
      case 15: due(where, "share", 0, 0, desk.share(), plain.share()); break;
      case 16: case 17: a = letter(); due(where, "goesIn", a, 0, desk.goesIn(a), plain.goesIn(a)); break;
      case 18: a = 1 + upTo(19); b = upTo(1); due(where, "bestPost", a, b, desk.bestPost(a, b), plain.bestPost(a, b)); break;
      case 19: due(where, "mostRegretted", 0, 0, desk.mostRegretted(), plain.mostRegretted()); break;
      case 20: a = random.nextBoolean() ? letter() : letterOrNone(); b = letter(); due(where, "ifSent", a, b, desk.ifSent(a, b), plain.ifSent(a, b)); break;
      case 21: case 22: callPut(where); break;
      case 23: if (random.nextInt(4) == 0) { due(where, "wipe", 0, 0, desk.wipe(), plain.wipe()); } break;
      case 24: due(where, "fault", 0, 0, desk.fault(), plain.fault()); break;
      case 25: due(where, "carryOut", 0, 0, desk.carryOut(), plain.carryOut()); break;
      case 26: due(where, "undo", 0, 0, desk.undo(), plain.undo()); break;
      case 27: a = upTo(1); due(where, "save", a, 0, desk.save(a), plain.save(a)); break;
      case 28: a = upTo(1); if (random.nextInt(3) == 0) { due(where, "restore", a, 0, desk.restore(a), plain.restore(a)); } break;
      default: callWrite(where); break;
    }
  }

  private void callWrite(String where) {
    int mood = upTo(5);
    int heat = upTo(random.nextBoolean() ? 99 : 40);
    int answers = letterOrNone();
    due(where, "write " + mood, heat, answers, desk.write(mood, heat, answers), plain.write(mood, heat, answers));
  }

  private void callHours(String where) {
    int mood = upTo(5);
    int unlocks = random.nextInt(4) == 0 ? -6 : upTo(23);
    int locks = upTo(23);
    due(where, "hours " + mood, unlocks, locks, desk.hours(mood, unlocks, locks), plain.hours(mood, unlocks, locks));
  }

  private void callPut(String where) {
    if (random.nextInt(12) == 0) {
      long characters = random.nextLong() >>> random.nextInt(64);
      due(where, "put " + characters, 0, 0, desk.put(characters), plain.put(characters));
      return;
    }
    int separated = desk.count(10) > 0 ? 1 : 0;
    StringBuilder text = new StringBuilder();
    for (int order = random.nextInt(4); order >= 0; order--) {
      text.append(separated++ > 0 ? ";" : "").append(order());
    }
    if (random.nextInt(6) == 0) {
      text.setCharAt(random.nextInt(text.length()), "+ktbu:;^-0123456789x".charAt(random.nextInt(20)));
    }
    for (int from = 0; from < text.length(); from += 8) {
      long characters = Checks.code(text.substring(from, Math.min(from + 8, text.length())));
      due(where, "put " + text, from, 0, desk.put(characters), plain.put(characters));
    }
    due(where, "fault of " + text, 0, 0, desk.fault(), plain.fault());
  }

  private String order() {
    int mood = random.nextInt(6);
    int number = random.nextInt(random.nextBoolean() ? 100 : 30);
    switch (random.nextInt(6)) {
      case 0: return "k" + mood;
      case 1: return "t" + number;
      case 2: return "b" + random.nextInt(12);
      case 3: return "u" + mood + random.nextInt(25) + "-" + random.nextInt(25);
      case 4: return "+" + mood + ":" + number + "^" + random.nextInt(12);
      default: return "+" + mood + ":" + number;
    }
  }

  private static void due(String where, String call, int a, int b, long got, long want) {
    Checks.due(got == want ? "" : where + call + " " + a + " " + b, got, want);
  }
}
