import java.util.Random;

/** Runs of up to 512 calls, chosen by seeds, on MoodDrawers and on PlainDesk: both have to answer alike. */
public final class ModelTest {
  private static final int RUNS = 600;
  private static final int CALLS = 512;
  /** No step makes more calls than this: four orders, put in pieces of eight characters, and fault(). */
  private static final int CALLS_OF_A_STEP = 8;
  private static final int[] HIGHEST_SETTING = {23, 99, 20};
  private static final int[] EXTREMES = {
      Integer.MIN_VALUE, Integer.MAX_VALUE, -1, -2, -5, -6, -7, 30, 31, 100, 240, 241};

  private final Random random;
  private final MoodDrawers desk = new MoodDrawers();
  private final PlainDesk plain = new PlainDesk();
  /** How this run is: long ones pass more hours, heedless ones have more wrong arguments. */
  private final int wrongIn;
  private final int passesMost;
  private int calls;

  private ModelTest(long seed) {
    random = new Random(seed);
    wrongIn = 5 + random.nextInt(40);
    passesMost = random.nextInt(4) == 0 ? 240 : 30;
  }

  public static void main(String[] args) {
    for (int run = 0; run < RUNS; run++) {
      ModelTest test = new ModelTest(run);
      if (run % 6 == 0) {
        test.passNearTheLastDay("run " + run + ": ");
      }
      while (test.calls <= CALLS - CALLS_OF_A_STEP) {
        test.step("run " + run + ", call " + test.calls + ": ");
      }
    }
    Checks.end("ModelTest");
  }

  private void passNearTheLastDay(String where) {
    for (int pass = 0; pass < 99; pass++) {
      due(where, "pass", 240, 0, desk.pass(240), plain.pass(240));
    }
  }

  private int upTo(int most) {
    if (random.nextInt(wrongIn) == 0) {
      return random.nextBoolean() ? most + 1 : EXTREMES[random.nextInt(EXTREMES.length)];
    }
    return random.nextInt(most + 1);
  }

  private int letter() {
    return upTo(Math.max(0, plain.count(2) - 1));
  }

  private int letterOrNone() {
    if (random.nextInt(3) == 0) {
      return -6;
    }
    long sent = plain.letters(1);
    for (int tries = 0; tries < 20; tries++) {
      int letter = random.nextInt(30);
      if ((sent >>> letter & 1) == 1) {
        return letter;
      }
    }
    return random.nextInt(4) == 0 ? letter() : -6;
  }

  private void step(String where) {
    switch (random.nextInt(10)) {
      case 0: case 1: callWrite(where); break;
      case 2: case 3: callChange(where); break;
      case 4: callPass(where); break;
      case 5: case 6: callQuery(where); break;
      case 7: callWhatIf(where); break;
      case 8: callText(where); break;
      default: callState(where); break;
    }
  }

  private void callChange(String where) {
    int mood = upTo(5);
    switch (random.nextInt(5)) {
      case 0: callSet(where); break;
      case 1: due(where, "turn", mood, 0, desk.turn(mood), plain.turn(mood)); break;
      case 2: callRest(where, mood); break;
      case 3: callHours(where, mood); break;
      default: callBurn(where); break;
    }
  }

  private void callSet(String where) {
    int setting = upTo(2);
    int value = upTo(HIGHEST_SETTING[Math.floorMod(setting, 3)]);
    due(where, "set", setting, value, desk.set(setting, value), plain.set(setting, value));
  }

  private void callRest(String where, int mood) {
    int days = upTo(random.nextBoolean() ? 3 : 30);
    due(where, "rest", mood, days, desk.rest(mood, days), plain.rest(mood, days));
  }

  private void callHours(String where, int mood) {
    int unlocks = random.nextInt(4) == 0 ? -6 : upTo(23);
    int locks = upTo(23);
    due(where, "hours " + mood, unlocks, locks, desk.hours(mood, unlocks, locks), plain.hours(mood, unlocks, locks));
  }

  private void callBurn(String where) {
    int letter = letter();
    due(where, "burn", letter, 0, desk.burn(letter), plain.burn(letter));
  }

  private void callPass(String where) {
    int hours = 1 + upTo(passesMost - 1);
    due(where, "pass", hours, 0, desk.pass(hours), plain.pass(hours));
  }

  private void callQuery(String where) {
    int letter = letter();
    int mood = upTo(5);
    int what = upTo(11);
    switch (random.nextInt(6)) {
      case 0: due(where, "ofLetter", letter, what, desk.ofLetter(letter, what), plain.ofLetter(letter, what)); break;
      case 1: due(where, "ofDrawer", mood, what, desk.ofDrawer(mood, what), plain.ofDrawer(mood, what)); break;
      case 2: due(where, "letters", what / 2, 0, desk.letters(what / 2), plain.letters(what / 2)); break;
      case 3: due(where, "count", what, 0, desk.count(what), plain.count(what)); break;
      case 4: due(where, "meanHeat", 0, 0, desk.meanHeat(), plain.meanHeat()); break;
      default: due(where, "share", 0, 0, desk.share(), plain.share()); break;
    }
  }

  private void callWhatIf(String where) {
    int letter = letter();
    int other = random.nextBoolean() ? letter() : letterOrNone();
    int days = 1 + upTo(19);
    int what = upTo(1);
    switch (random.nextInt(6)) {
      case 0: case 1: due(where, "goesIn", letter, 0, desk.goesIn(letter), plain.goesIn(letter)); break;
      case 2: due(where, "bestPost", days, what, desk.bestPost(days, what), plain.bestPost(days, what)); break;
      case 3: due(where, "mostRegretted", 0, 0, desk.mostRegretted(), plain.mostRegretted()); break;
      default: due(where, "ifSent", other, letter, desk.ifSent(other, letter), plain.ifSent(other, letter)); break;
    }
  }

  private void callText(String where) {
    switch (random.nextInt(6)) {
      case 0: case 1: case 2: callPut(where); break;
      case 3: due(where, "fault", 0, 0, desk.fault(), plain.fault()); break;
      case 4: due(where, "carryOut", 0, 0, desk.carryOut(), plain.carryOut()); break;
      default: callWipe(where); break;
    }
  }

  private void callWipe(String where) {
    if (random.nextInt(3) == 0) {
      due(where, "wipe", 0, 0, desk.wipe(), plain.wipe());
    }
  }

  private void callState(String where) {
    int slot = upTo(1);
    switch (random.nextInt(6)) {
      case 0: due(where, "save", slot, 0, desk.save(slot), plain.save(slot)); break;
      case 1: due(where, "restore", slot, 0, desk.restore(slot), plain.restore(slot)); break;
      default: due(where, "undo", 0, 0, desk.undo(), plain.undo()); break;
    }
  }

  private void callWrite(String where) {
    int mood = upTo(5);
    int heat = upTo(random.nextBoolean() ? 99 : 40);
    int answers = letterOrNone();
    due(where, "write " + mood, heat, answers, desk.write(mood, heat, answers), plain.write(mood, heat, answers));
  }

  private void callPut(String where) {
    if (random.nextInt(12) == 0) {
      long characters = random.nextLong() >>> random.nextInt(64);
      due(where, "put " + characters, 0, 0, desk.put(characters), plain.put(characters));
      return;
    }
    int separated = plain.count(10) > 0 ? 1 : 0;
    StringBuilder text = new StringBuilder();
    for (int order = random.nextInt(4); order >= 0; order--) {
      text.append(separated++ > 0 ? ";" : "").append(order());
    }
    if (random.nextInt(6) == 0) {
      text.setCharAt(random.nextInt(text.length()), "+ktbu:;^-0123456789x".charAt(random.nextInt(20)));
    }
    for (int from = 0; from < text.length(); from += 8) {
      long characters = Checks.code(text.substring(from, Math.min(from + 8, text.length())));
      due(where, "put " + text, from, 0, desk.put(characters), plain.put(characters));
    }
    due(where, "fault of " + text, 0, 0, desk.fault(), plain.fault());
  }

  private String order() {
    int mood = random.nextInt(6);
    int number = random.nextInt(random.nextBoolean() ? 100 : 30);
    switch (random.nextInt(6)) {
      case 0: return "k" + mood;
      case 1: return "t" + number;
      case 2: return "b" + random.nextInt(12);
      case 3: return "u" + mood + random.nextInt(25) + "-" + random.nextInt(25);
      case 4: return "+" + mood + ":" + number + "^" + random.nextInt(12);
      default: return "+" + mood + ":" + number;
    }
  }

  private void due(String where, String call, int a, int b, long got, long want) {
    calls++;
    Checks.due(got == want ? "" : where + call + " " + a + " " + b, got, want);
  }
}
