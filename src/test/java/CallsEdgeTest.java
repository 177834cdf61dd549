import java.util.Arrays;

// For each sentence of the promises 1 to 17 and of "Settings" that names a boundary case: both ends of each range and what
// is just beyond them, also several at once; the least and the most that a call can answer.
public final class CallsEdgeTest extends Checks {
  public static void main(String[] args) {
    newObject();
    ring();
    noise();
    sample();
    draw();
    drawAsANumber();
    restart();
    settings();
    set();
    ringOf();
    source();
    sourceWithNothingToTell();
    sourceAtItsEnds();
    raw();
    stored();
    would();
    wouldAtItsEnds();
    takes();
    takesAtItsEnds();
    bestPeriod();
    bestPeriodAtItsEnds();
    share();
    count();
    countAtItsEnds();
    undo();
    finish();
  }

  // ---- ranges of arguments

  /** The argument at this place: the ends of its range are taken, what is just beyond them is not. */
  static void range(String name, int at, int least, int most, int... with) {
    for (int value : new int[] {LOW, least - 1, least, most, most + 1, HIGH}) {
      with[at] = value;
      takesOrRefuses(name, value >= least && value <= most, with);
    }
  }

  private static void takesOrRefuses(String name, boolean taken, int... with) {
    JudgedBits x = full();
    int answer = call(x, name, with);
    due(told(name, with) + " is " + (taken ? "taken" : "refused"), answer == BAD ? 0 : 1, taken ? 1 : 0);
  }

  // A state in which each call has an answer, so that only an argument can be wrong.
  static JudgedBits full() {
    JudgedBits x = withFullStore();
    feed(x, "1");
    return x;
  }

  /** All arguments of a call, each within its range or out of it: one that is out of it is enough. */
  static void together(String name, int[]... ranges) {
    together(name, ranges, 0, new int[ranges.length]);
  }

  private static void together(String name, int[][] ranges, int at, int[] with) {
    if (at == ranges.length) {
      boolean taken = true;
      for (int i = 0; i < at; i++) taken &= with[i] >= ranges[i][0] && with[i] <= ranges[i][1];
      takesOrRefuses(name, taken, with);
      return;
    }
    int least = ranges[at][0], most = ranges[at][1];
    for (int value : new int[] {LOW, least - 1, least, most, most + 1, HIGH}) {
      with[at] = value;
      together(name, ranges, at + 1, with);
    }
  }

  // ---- promises 1 to 7

  static void newObject() {
    sentence("Promise 1: A new object", "Creates a source in the start up.");
    JudgedBits x = new JudgedBits(), other = new JudgedBits();
    x.sample(300);
    x.type('n');
    for (JudgedBits y : new JudgedBits[] {other, new JudgedBits()}) {
      due(y, 0, "source", 0);
      due(y, 64, "source", 2);
      due(y, NONE, "raw", 0);
      due(y, NONE, "stored", 0);
      due(y, NONE, "share");
      for (int w = 0; w < 10; w++) due(y, 0, "count", w);
    }
  }

  static void ring() {
    String heading = "Promise 2: ring";
    sentence(heading, "- `ring`: 0 or 1");
    range("ring", 0, 0, 1, 0, 100, 7);
    sentence(heading, "- `period`: 10 to 999");
    range("ring", 1, 10, 999, 0, 100, 7);
    range("ring", 1, 10, 999, 1, 100, 7);
    sentence(heading, "- `jitter`: 0 to 99");
    range("ring", 2, 0, 99, 0, 100, 7);
    range("ring", 2, 0, 99, 1, 100, 7);
    sentence(heading, "Returns the period that it had; INVALID_ARGUMENT if an argument is out of range.");
    together("ring", new int[] {0, 1}, new int[] {10, 999}, new int[] {0, 99});
    JudgedBits x = new JudgedBits();
    due(x, 100, "ring", 0, 10, 99);
    due(x, 137, "ring", 1, 999, 0);
    due(x, 10, "ring", 0, 999, 0);
    due(x, 999, "ring", 1, 10, 99);
    due(x, 999, "ring", 0, 999, 0);
    sentence(heading, "Sets a ring; its phase becomes 0.");
    x = new JudgedBits();
    x.set(0, 9);
    x.ring(0, 10, 0);
    x.ring(1, 20, 0);
    x.sample(1);
    due("the phase 0, the last of its period", x.ringOf(0, 2), 9);
    x.ring(0, 10, 0);
    due("the phase 0 behind the same ring()", x.ringOf(0, 2), 0);
    due("the phase 1 behind it", x.ringOf(1, 2), 9);
    x.ring(1, 999, 0);
    due("the phase 1 behind its own", x.ringOf(1, 2), 0);
    x.ring(0, 10, 7);
    due("a phase that is 0 already", x.ringOf(0, 2), 0);
  }

  static void noise() {
    String heading = "Promise 3: noise";
    sentence(heading, "- `value`: 1 to 65536");
    range("noise", 0, 1, 65536, 0);
    sentence(heading, "Returns what it was; INVALID_ARGUMENT if value is out of range.");
    JudgedBits x = new JudgedBits();
    due(x, 1, "noise", 65536);
    due(x, BAD, "noise", 65537);
    due(x, 65536, "noise", 1);
    due(x, BAD, "noise", 0);
    due(x, 1, "noise", 1);
    due(x, 1, "source", 9);
  }

  static void sample() {
    String heading = "Promise 4: sample";
    sentence(heading, "- `many`: 1 to 300");
    range("sample", 0, 1, 300, 0);
    for (int many : new int[] {1, 299, 300}) {
      JudgedBits x = new JudgedBits();
      x.sample(many);
      due("samples of " + many, x.count(0), many);
    }
    sentence(heading, "Returns how many bits came into the store; INVALID_ARGUMENT if many is out of range.");
    due(new JudgedBits(), 0, "sample", 64);
    due(alternating(), 0, "sample", 65);
    due(alternating(), 1, "sample", 66);
    due(alternating(), 63, "sample", 191);
    due(alternating(), 64, "sample", 192);
    due(alternating(), 64, "sample", 300);
    due(running(), 0, "sample", 1);
    due(running(), 64, "sample", 300);
    due(withFullStore(), 0, "sample", 300);
    due(inAlarmWithTwo(), 0, "sample", 300);
    JudgedBits x = withFullStore();
    x.draw(1);
    due("one comes in, the others are lost", x.sample(300), 1);
    x = fed(running(), "1");
    due("the sample that ends a pair of unlike ones", feed(x, "0"), 1);
    x = fed(running(), "1");
    due("the sample that ends a pair of like ones", feed(x, "1"), 0);
    due(x, BAD, "sample", 0);
    due(x, BAD, "sample", 301);
  }

  static JudgedBits fed(JudgedBits x, String bits) {
    feed(x, bits);
    return x;
  }

  static void draw() {
    String heading = "Promise 5: draw";
    sentence(heading, "- `many`: 1 to 24");
    range("draw", 0, 1, 24, 0);
    sentence(heading, "INVALID_ARGUMENT if many is out of range; NOT_POSSIBLE if the store has fewer, or the source is in alarm.");
    due(new JudgedBits(), CANNOT, "draw", 1);
    due(new JudgedBits(), CANNOT, "draw", 24);
    due(running(), CANNOT, "draw", 1);
    JudgedBits x = fed(running(), "1001");
    due(x, CANNOT, "draw", 3);
    due(x, 2, "draw", 2);
    due(x, CANNOT, "draw", 1);
    x = running();
    x.sample(46);
    due("the store", x.source(6), 23);
    due(x, CANNOT, "draw", 24);
    x.sample(2);
    due(x, 16777215, "draw", 24);
    due(x, CANNOT, "draw", 1);
    x = inAlarmWithTwo();
    due("the store in alarm", x.source(6), 2);
    for (int many : new int[] {1, 2, 3, 24}) due(x, CANNOT, "draw", many);
    x.restart();
    due(x, CANNOT, "draw", 1);
  }

  static void drawAsANumber() {
    String heading = "Promise 5: draw";
    sentence(heading, "Draws bits out of the store, the earliest first.");
    JudgedBits x = fed(running(), "10" + "01" + "01" + "10" + "10");
    due(x, 1, "draw", 1);
    due(x, 1, "draw", 3);
    due(x, 1, "draw", 1);
    due("the store", x.source(6), 0);
    sentence(heading, "Returns the bits as a number, the first one as its highest bit");
    due(fed(running(), "10"), 1, "draw", 1);
    due(fed(running(), "01"), 0, "draw", 1);
    due(fed(running(), "1001"), 2, "draw", 2);
    due(fed(running(), "0110"), 1, "draw", 2);
    due(fed(running(), times(24, "01")), 0, "draw", 24);
    due(fed(running(), "10" + times(23, "01")), 8388608, "draw", 24);
    due(fed(running(), times(23, "01") + "10"), 1, "draw", 24);
    x = withFullStore();
    due("24 of 64 ones", x.draw(24), 16777215);
    due("24 of 40 ones", x.draw(24), 16777215);
    due("16 of 16 ones", x.draw(16), 65535);
    due("the store", x.source(6), 0);
    // 1, 0 ahead and 62 ones behind: the highest place of the store
    x = fed(running(), "1001");
    x.ring(1, 40, 0);
    x.set(0, 20);
    x.sample(124);
    due("the store", x.source(6), 64);
    due(x, 1, "draw", 1);
    due(x, 1, "draw", 2);
    due("the store", x.source(6), 61);
  }

  static void restart() {
    String heading = "Promise 6: restart";
    sentence(heading, "Returns how many bits the store had.");
    due(new JudgedBits(), 0, "restart");
    due(running(), 0, "restart");
    due(fed(running(), "1"), 0, "restart");
    due(fed(running(), "10"), 1, "restart");
    due(inAlarm(), 0, "restart");
    due(inAlarmWithTwo(), 2, "restart");
    JudgedBits x = withFullStore();
    due(x, 64, "restart");
    due(x, 0, "restart");
    sentence(heading, "Starts the source anew: it is in the start up, without any raw bit tested; the run, the window and the store are empty.");
    for (JudgedBits y : new JudgedBits[] {new JudgedBits(), fed(alternating(), "11"), full(), inAlarm(), inAlarmWithTwo()}) {
      y.restart();
      int[] source = {0, NONE, 64, 0, 0, 0, 0, NONE};
      for (int w = 0; w < source.length; w++) due(y, source[w], "source", w);
      due(y, NONE, "stored", 0);
      due(y, CANNOT, "draw", 1);
    }
    x = withFullStore();
    x.restart();
    x.ring(1, 40, 0);
    x.sample(64);
    feed(x, "01" + "01" + "10");
    due("three bits behind the new start up", x.source(6), 3);
    due("nothing of the bits before in a draw", x.draw(3), 1);
    sentence(heading, "Rings, noise and settings stay, so do the raw bits that are kept.");
    x = new JudgedBits();
    x.ring(0, 999, 99);
    x.ring(1, 10, 0);
    x.set(3, 0);
    x.sample(65);
    int[] seen = new int[80], after = new int[80];
    lasting(x, seen);
    x.restart();
    lasting(x, after);
    due("what stays is as before", Arrays.equals(seen, after) ? 1 : 0, 1);
    due("a raw bit is kept", x.raw(63) >= 0 ? 1 : 0, 1);
    x.restart();
    lasting(x, after);
    due("what stays is as before the second one", Arrays.equals(seen, after) ? 1 : 0, 1);
  }

  static void lasting(JudgedBits x, int[] seen) {
    for (int i = 0; i < 64; i++) seen[i] = x.raw(i);
    for (int i = 0; i < 8; i++) seen[64 + i] = x.ringOf(i / 4, i % 4);
    for (int i = 0; i < 4; i++) seen[72 + i] = x.count(20 + i);
    seen[76] = x.source(9);
    seen[77] = x.share();
    seen[78] = x.count(0);
    seen[79] = x.count(1);
  }

  static final int[] LEAST = {1, 0, 2, 0}, MOST = {500, 50, 40, 16}, FIRST = {37, 2, 12, 6};

  static void settings() {
    sentence("Settings", "The settings are (in parentheses: range; first value): 0 step (1 to 500; 37), 1 lock (0 to 50; 2), 2 longest run (2 to 40; "
        + "12), 3 least ones (0 to 16; 6).");
    for (int what = 0; what < 4; what++) {
      JudgedBits x = new JudgedBits();
      due(x, FIRST[what], "count", 20 + what);
      for (int value : new int[] {LOW, LEAST[what] - 1, MOST[what] + 1, HIGH}) {
        due(x, BAD, "set", what, value);
        due(x, FIRST[what], "count", 20 + what);
      }
      due(x, FIRST[what], "set", what, LEAST[what]);
      due(x, LEAST[what], "count", 20 + what);
      due(x, LEAST[what], "set", what, MOST[what]);
      due(x, MOST[what], "count", 20 + what);
      due(x, MOST[what], "set", what, FIRST[what]);
      for (int other = 0; other < 4; other++) due(x, FIRST[other], "count", 20 + other);
    }
  }

  static void set() {
    String heading = "Promise 7: set";
    sentence(heading, "- `what`: 0 to 3");
    range("set", 0, 0, 3, 0, 2);
    sentence(heading, "- `value`: a value in its range");
    for (int what = 0; what < 4; what++) range("set", 1, LEAST[what], MOST[what], what, 0);
    sentence(heading, "Returns what it was; INVALID_ARGUMENT if an argument is out of range.");
    for (int what : new int[] {LOW, -1, 4, HIGH}) {
      for (int value : new int[] {LOW, -1, 0, 1, 2, 16, 17, 501, HIGH}) due(new JudgedBits(), BAD, "set", what, value);
    }
    JudgedBits x = new JudgedBits();
    due(x, 37, "set", 0, 37);
    due(x, 37, "set", 0, 500);
    due(x, 500, "set", 0, 1);
    due(x, 1, "set", 0, 1);
    due(x, 6, "set", 3, 0);
    due(x, 0, "set", 3, 16);
  }

  // ---- promises 8 to 11

  static void ringOf() {
    String heading = "Promise 8: ringOf";
    sentence(heading, "- `ring`: 0 or 1");
    range("ringOf", 0, 0, 1, 0, 0);
    sentence(heading, "- `what`: 0: its period; 1: its jitter; 2: its phase; 3: 1 if it is high, otherwise 0");
    range("ringOf", 1, 0, 3, 0, 0);
    range("ringOf", 1, 0, 3, 1, 0);
    JudgedBits x = new JudgedBits();
    x.ring(0, 10, 99);
    x.ring(1, 999, 0);
    int[] first = {10, 99, 0, 1, 999, 0, 0, 1};
    for (int i = 0; i < 8; i++) due(x, first[i], "ringOf", i / 4, i % 4);
    x.ring(0, 10, 0);
    x.set(0, 499);
    x.sample(1);
    int[] then = {10, 0, 9, 0, 999, 0, 499, 0};
    for (int i = 0; i < 8; i++) due(x, then[i], "ringOf", i / 4, i % 4);
    sentence(heading, "Returns the number; INVALID_ARGUMENT if an argument is out of range.");
    together("ringOf", new int[] {0, 1}, new int[] {0, 3});
  }

  static void source() {
    String heading = "Promise 9: source";
    sentence(heading, "- `what`: 0: 0 in the start up, 1 running, 2 in alarm; 1: the test that brought the alarm (1 the run test, 2 the share test); 2: raw "
        + "bits that are wanted still in the start up; 3: the run; 4: raw bits in the window; 5: ones in the window; 6: bits in the store; 7: the "
        + "first bit of a pair that waits; 8: 1 if the ring 1 locks on, otherwise 0; 9: the noise");
    range("source", 0, 0, 9, 0);
    JudgedBits x = new JudgedBits();
    int[] first = {0, NONE, 64, 0, 0, 0, 0, NONE, 0, 1};
    for (int w = 0; w < 10; w++) due(x, first[w], "source", w);
    x = full();
    x.noise(65536);
    x.set(1, 20);
    int[] then = {1, NONE, NONE, 1, 1, 1, 64, 1, 1, 65536};
    for (int w = 0; w < 10; w++) due(x, then[w], "source", w);
  }

  static void sourceWithNothingToTell() {
    sentence("Promise 9: source", "Returns the number; INVALID_ARGUMENT if what is out of range; NOT_FOUND for 1 if it is not in alarm, for 2 if it is "
        + "not in the start up, for 7 if none waits.");
    for (int what : new int[] {LOW, -1, 10, HIGH}) {
      for (JudgedBits x : new JudgedBits[] {new JudgedBits(), full(), inAlarm()}) due(x, BAD, "source", what);
    }
    JudgedBits startUp = alternating(), shared = running();
    startUp.sample(63);
    shared.set(3, 16);
    feed(shared, times(8, "0011"));
    due("16 ones pass", shared.source(1), NONE);
    feed(shared, times(8, "0001"));
    due("8 ones do not", shared.source(1), 2);
    due("waits in alarm", shared.source(7), NONE);
    due(inAlarm(), 1, "source", 1);
    due(inAlarm(), NONE, "source", 2);
    due(inAlarm(), NONE, "source", 7);
    due(startUp, NONE, "source", 1);
    due(startUp, 1, "source", 2);
    due(startUp, NONE, "source", 7);
    due(running(), NONE, "source", 1);
    due(running(), NONE, "source", 2);
    due(running(), NONE, "source", 7);
    due(fed(running(), "0"), 0, "source", 7);
    due(fed(running(), "1"), 1, "source", 7);
    due(fed(running(), "01"), NONE, "source", 7);
    due(fed(running(), "11"), NONE, "source", 7);
    JudgedBits x = inAlarm();
    x.restart();
    due("the test behind restart()", x.source(1), NONE);
    due("wanted behind restart()", x.source(2), 64);
  }

  static void sourceAtItsEnds() {
    sentence("Promise 9: source", "3: the run; 4: raw bits in the window; 5: ones in the window; 6: bits in the store");
    JudgedBits x = running();
    x.set(2, 40);
    x.set(3, 0);
    feed(x, times(31, "1"));
    int[] ones = {31, 31, 31, 0};
    for (int w = 0; w < 4; w++) due(x, ones[w], "source", 3 + w);
    feed(x, "1");
    int[] full = {32, 0, 0, 0};
    for (int w = 0; w < 4; w++) due(x, full[w], "source", 3 + w);
    feed(x, times(9, "1"));
    int[] failed = {41, 9, 9, 0};
    for (int w = 0; w < 4; w++) due(x, failed[w], "source", 3 + w);
    due(withFullStore(), 64, "source", 6);
  }

  static void raw() {
    String heading = "Promise 10: raw";
    sentence(heading, "Returns one of the latest raw bits (64 are kept).");
    JudgedBits x = fed(alternating(), "1");
    due(x, 1, "raw", 0);
    feed(x, times(62, "0"));
    due(x, 1, "raw", 62);
    due(x, NONE, "raw", 63);
    feed(x, "0");
    due(x, 1, "raw", 63);
    due(x, 0, "raw", 62);
    feed(x, "0");
    due(x, 0, "raw", 63);
    due(x, BAD, "raw", 64);
    due("the one that is kept no longer is in no share", x.share(), 0);
    sentence(heading, "- `index`: 0 for the latest one, and so on");
    x = fed(alternating(), "100");
    int[] latest = {0, 0, 1, NONE};
    for (int i = 0; i < 4; i++) due(x, latest[i], "raw", i);
    sentence(heading, "Returns the bit; INVALID_ARGUMENT if index is not 0 to 63; NOT_FOUND if there are not so many.");
    range("raw", 0, 0, 63, 0);
    for (int index : new int[] {LOW, -1, 64, HIGH}) due(new JudgedBits(), BAD, "raw", index);
    due(new JudgedBits(), NONE, "raw", 0);
    due(new JudgedBits(), NONE, "raw", 63);
    x = alternating();
    x.sample(1);
    due(x, 1, "raw", 0);
    due(x, NONE, "raw", 1);
  }

  static void stored() {
    String heading = "Promise 11: stored";
    sentence(heading, "- `index`: 0 for the one that is drawn first, and so on");
    JudgedBits x = fed(running(), "10" + "01" + "01");
    int[] earliest = {1, 0, 0, NONE};
    for (int i = 0; i < 4; i++) due(x, earliest[i], "stored", i);
    x.draw(1);
    due(x, 0, "stored", 0);
    due(x, NONE, "stored", 2);
    sentence(heading, "Returns the bit; INVALID_ARGUMENT if index is below 0; NOT_FOUND if there are not so many.");
    for (int index : new int[] {LOW, -1}) {
      due(new JudgedBits(), BAD, "stored", index);
      due(full(), BAD, "stored", index);
    }
    due(new JudgedBits(), NONE, "stored", 0);
    due(new JudgedBits(), NONE, "stored", HIGH);
    x = fed(running(), "01");
    due(x, 0, "stored", 0);
    due(x, NONE, "stored", 1);
    x = withFullStore();
    due(x, 1, "stored", 0);
    due(x, 1, "stored", 63);
    for (int index : new int[] {64, 65, 128, HIGH}) due(x, NONE, "stored", index);
    x.draw(24);
    due(x, 1, "stored", 39);
    due(x, NONE, "stored", 40);
    due(inAlarmWithTwo(), 1, "stored", 0);
    due(inAlarmWithTwo(), NONE, "stored", 2);
  }

  // ---- promises 12 to 17

  static void would() {
    String heading = "Promise 12: would";
    sentence(heading, "- `many`: 0 to 300");
    for (int what = 0; what < 3; what++) range("would", 0, 0, 300, 0, what);
    sentence(heading, "- `what`: 0: bits in the store; 1: as source() of 0; 2: bits that would be lost by these samples");
    range("would", 1, 0, 2, 0, 0);
    range("would", 1, 0, 2, 300, 0);
    sentence(heading, "Returns the number; INVALID_ARGUMENT if an argument is out of range.");
    together("would", new int[] {0, 300}, new int[] {0, 2});
  }

  static void wouldAtItsEnds() {
    sentence("Promise 12: would", "0: bits in the store; 1: as source() of 0; 2: bits that would be lost by these samples");
    int[][] rows = {{0, 0, 0, 0}, {63, 0, 0, 0}, {64, 0, 1, 0}, {65, 0, 1, 0}, {66, 1, 1, 0}, {191, 63, 1, 0}, {192, 64, 1, 0}, {193, 64, 1, 0},
        {194, 64, 1, 1}, {299, 64, 1, 53}, {300, 64, 1, 54}};
    for (int[] row : rows) {
      for (int what = 0; what < 3; what++) due(alternating(), row[1 + what], "would", row[0], what);
    }
    JudgedBits x = withFullStore();
    x.sample(300);
    due("lost before", x.count(4), 150);
    int[] full = {64, 1, 0};
    for (int what = 0; what < 3; what++) due(x, full[what], "would", 0, what);
    due(x, 150, "would", 300, 2);
    x = inAlarmWithTwo();
    for (int many : new int[] {0, 1, 300}) {
      due(x, 2, "would", many, 0);
      due(x, 2, "would", many, 1);
      due(x, 0, "would", many, 2);
    }
    // the single sample that ends a pair, that loses its bit, that ends the start up
    due(fed(running(), "1"), 0, "would", 0, 0);
    due(fed(running(), "1"), 1, "would", 1, 0);
    due(full(), 0, "would", 0, 2);
    due(full(), 1, "would", 1, 2);
    x = alternating();
    x.sample(63);
    due(x, 0, "would", 0, 1);
    due(x, 1, "would", 1, 1);
    // a ring that stands still: like bits up to the setting 2 and one more
    x = alternating();
    x.ring(1, 20, 0);
    due(x, 0, "would", 12, 1);
    due(x, 2, "would", 13, 1);
  }

  static void takes() {
    String heading = "Promise 13: takes";
    sentence(heading, "- `bits`: 1 to 64");
    range("takes", 0, 1, 64, 0);
    for (int bits : new int[] {LOW, 0, 65, HIGH}) {
      due(new JudgedBits(), BAD, "takes", bits);
      due(inAlarm(), BAD, "takes", bits);
    }
    sentence(heading, "Tells how many samples it takes until the store has as many bits.");
    due(alternating(), 66, "takes", 1);
    due(alternating(), 192, "takes", 64);
    due(running(), 2, "takes", 1);
    due(running(), 128, "takes", 64);
    due(fed(running(), "10"), 0, "takes", 1);
    due(fed(running(), "10" + "1"), 125, "takes", 64);
    JudgedBits x = running();
    x.sample(127);
    due(x, 0, "takes", 63);
    due(x, 1, "takes", 64);
    x.sample(1);
    due(x, 0, "takes", 64);
    due(x, 0, "takes", 1);
    x.draw(1);
    due(x, 0, "takes", 63);
    due(x, 2, "takes", 64);
  }

  static void takesAtItsEnds() {
    sentence("Promise 13: takes", "Returns how many, 0 to 2000; INVALID_ARGUMENT if bits is out of range; NOT_FOUND if it would not have them by then.");
    due(slow(), 78, "takes", 1);
    due(slow(), 1950, "takes", 25);
    due(slow(), NONE, "takes", 26);
    JudgedBits x = slow();
    x.sample(26);
    due("the 26th with the sample 2002", x.takes(26), NONE);
    x.sample(1);
    due("the 26th with the sample 2001", x.takes(26), NONE);
    x.sample(1);
    due("the 26th with the sample 2000", x.takes(26), 2000);
    x.sample(1);
    due("the 26th with the sample 1999", x.takes(26), 1999);
    for (int bits : new int[] {1, 64}) due(inAlarm(), NONE, "takes", bits);
    due(inAlarmWithTwo(), 0, "takes", 1);
    due(inAlarmWithTwo(), 0, "takes", 2);
    due(inAlarmWithTwo(), NONE, "takes", 3);
    // an alarm with the 13th like bit, before it has one
    x = running();
    x.ring(1, 20, 0);
    due(x, NONE, "takes", 1);
  }

  // Without jitter, lock and share test, with the step and the period of the ring 0.
  static JudgedBits regular(int period0, int step, int lock, int samples) {
    JudgedBits x = new JudgedBits();
    x.ring(0, period0, 0);
    x.ring(1, 137, 0);
    x.set(0, step);
    x.set(1, lock);
    x.set(2, 40);
    x.set(3, 0);
    if (samples > 0) x.sample(samples);
    return x;
  }

  static void bestPeriod() {
    String heading = "Promise 14: bestPeriod";
    sentence(heading, "- `what`: 0: the period, of several the lowest; 1: how many bits");
    range("bestPeriod", 0, 0, 1, 0);
    bestIs(224, 150, 5, 0, 40, 44);    // also with 80, 160 and 200
    bestIs(451, 293, 6, 0, 280, 47);   // also with 300
    due(withFullStore(), 20, "bestPeriod", 0);
    due(withFullStore(), 64, "bestPeriod", 1);
    due(inAlarm(), 20, "bestPeriod", 0);
    due(inAlarm(), 0, "bestPeriod", 1);
    due(inAlarmWithTwo(), 20, "bestPeriod", 0);
    due(inAlarmWithTwo(), 2, "bestPeriod", 1);
    sentence(heading, "Returns the number; INVALID_ARGUMENT if what is out of range.");
    for (int what : new int[] {LOW, -1, 2, HIGH}) {
      due(new JudgedBits(), BAD, "bestPeriod", what);
      due(inAlarm(), BAD, "bestPeriod", what);
    }
  }

  static void bestPeriodAtItsEnds() {
    sentence("Promise 14: bestPeriod", "Finds the period of the ring 1, of 20, 40 and so on to 400, with which most bits would be in the store behind 200 "
        + "samples, if it was set so now (with its jitter, by ring()).");
    bestIs(676, 6, 9, 0, 20, 40);
    bestIs(444, 19, 46, 0, 40, 62);
    bestIs(706, 157, 28, 0, 380, 38);
    bestIs(942, 401, 42, 0, 400, 58);
    bestIs(70, 19, 0, 0, 400, 39);     // behind 199 it would be 20 with 38
    bestIs(480, 75, 0, 1, 20, 43);     // behind 201 it would be 240 with 44
    bestIs(560, 53, 0, 0, 120, 50);    // behind 199 it would be 100 with 49
    due("a jitter that makes a difference", withJitter(99).bestPeriod(1) != withJitter(0).bestPeriod(1) ? 1 : 0, 1);
    for (int jitter : new int[] {0, 1, 99}) {
      JudgedBits x = withJitter(jitter);
      int[] best = bestByRing(jitter);
      due("bestPeriod(0) with the jitter " + jitter, x.bestPeriod(0), best[0]);
      due("bestPeriod(1) with the jitter " + jitter, x.bestPeriod(1), best[1]);
    }
  }

  static JudgedBits withJitter(int jitter) {
    JudgedBits x = regular(444, 19, 46, 0);
    x.ring(1, 137, jitter);
    return x;
  }

  static int[] bestByRing(int jitter) {
    int[] best = {0, -1};
    for (int period = 20; period <= 400; period += 20) {
      JudgedBits x = withJitter(jitter);
      x.ring(1, period, jitter);
      int bits = x.sample(200);
      if (bits > best[1]) best = new int[] {period, bits};
    }
    return best;
  }

  // The two numbers, and that they are the best of all when the ring is really set and runs.
  static void bestIs(int period0, int step, int lock, int samples, int period, int bits) {
    String with = " with " + period0 + ", " + step + ", " + lock;
    JudgedBits x = regular(period0, step, lock, samples);
    due("bestPeriod(0)" + with, x.bestPeriod(0), period);
    due("bestPeriod(1)" + with, x.bestPeriod(1), bits);
    due("the period stays" + with, x.ringOf(1, 0), 137);
    for (int other = 20; other <= 400; other += 20) {
      JudgedBits y = regular(period0, step, lock, samples);
      y.ring(1, other, 0);
      int came = y.sample(200);
      if (other == period) due("bits with the best one" + with, came, bits);
      else due("bits with " + other + with + " are fewer, or as many with a higher one", came < bits || came == bits && other > period ? 1 : 0, 1);
    }
  }

  static void share() {
    String heading = "Promise 15: share";
    sentence(heading, "Returns the bits of the float; NOT_FOUND if there are none.");
    due(new JudgedBits(), NONE, "share");
    JudgedBits x = new JudgedBits();
    x.restart();
    due(x, NONE, "share");
    due(fed(alternating(), "0"), 0, "share");
    due(fed(alternating(), "1"), 0x3F800000, "share");
    x = fed(alternating(), "1");
    x.restart();
    due(x, 0x3F800000, "share");
    x.undo();
    due(x, 0x3F800000, "share");
    for (int n = 0; n < 3; n++) x.undo();
    due(x, NONE, "share");
    sentence(heading, "how many of them are 1, as a float, divided by how many there are, as a float.");
    due(fed(alternating(), "100"), 0x3EAAAAAB, "share");
    due(fed(alternating(), "110"), 0x3F2AAAAB, "share");
    due(fed(alternating(), "1" + times(62, "0")), Float.floatToIntBits(1f / 63f), "share");
    due(fed(alternating(), "1" + times(63, "0")), 0x3C800000, "share");
    due(fed(alternating(), "1" + times(64, "0")), 0, "share");
    due(fed(alternating(), "0" + times(63, "1")), 0x3F7C0000, "share");
    due(fed(alternating(), "0" + times(64, "1")), 0x3F800000, "share");
    due(fed(alternating(), times(64, "0")), 0, "share");
  }

  static void count() {
    String heading = "Promise 16: count";
    sentence(heading, "Returns the number; INVALID_ARGUMENT if what is out of range.");
    range("count", 0, 0, 9, 0);
    for (int what : new int[] {10, 19, 24}) due(full(), BAD, "count", what);
    for (int what = 0; what < 10; what++) due(new JudgedBits(), 0, "count", what);
    sentence(heading, "20 to 23: the settings 0 to 3");
    range("count", 0, 20, 23, 0);
    for (int what = 0; what < 4; what++) {
      due(new JudgedBits(), FIRST[what], "count", 20 + what);
      JudgedBits x = new JudgedBits();
      x.set(what, MOST[what]);
      due(x, MOST[what], "count", 20 + what);
    }
  }

  static void countAtItsEnds() {
    sentence("Promise 16: count", "- `what`: 0: samples so far; 1: ones of the raw bits so far; 2: pairs that were left out so far; 3: bits that went into the "
        + "store so far; 4: bits that were lost so far; 5: bits that were drawn so far; 6: alarms so far; 7: the longest run so far; 8: states in the "
        + "history; 9: the length of the text");
    JudgedBits x = withFullStore();
    x.draw(24);
    x.sample(50);
    feed(x, "11" + "00");
    int[] before = {64 + 128 + 50 + 4, 32 + 64 + 25 + 2, 2, 64 + 24, 1, 24, 0, 2, 4, 0};
    for (int w = 0; w < 10; w++) due(x, before[w], "count", w);
    x.restart();
    x.type('q');
    before[9] = 1;
    for (int w = 0; w < 10; w++) due(x, before[w], "count", w);
    x.set(2, 2);
    feed(x, "000");
    int[] alarm = {before[0] + 3, before[1], 2, 88, 1, 24, 1, 3, 4, 1};
    for (int w = 0; w < 10; w++) due(x, alarm[w], "count", w);
    feed(x, "111111");
    due("the longest run in alarm", x.count(7), 3);
    x.restart();
    feed(x, "000");
    due("two alarms", x.count(6), 2);
    x.undo();
    due("one alarm behind undo()", x.count(6), 1);
  }

  static void undo() {
    String heading = "Promise 17: undo";
    sentence(heading, "Returns the number of states that are left in the history; NOT_POSSIBLE if it is empty.");
    due(new JudgedBits(), CANNOT, "undo");
    for (int changes = 1; changes <= 6; changes++) {
      JudgedBits x = new JudgedBits();
      for (int n = 1; n <= changes; n++) x.noise(n + 1);
      int kept = Math.min(changes, 4);
      due("states behind " + changes + " changes", x.count(8), kept);
      for (int left = kept - 1; left >= 0; left--) due(x, left, "undo");
      due(x, CANNOT, "undo");
      due(x, CANNOT, "undo");
      due("states", x.count(8), 0);
    }
    sentence(heading, "Restores the latest state of the history, which is removed from it.");
    JudgedBits x = new JudgedBits();
    x.noise(2);
    x.noise(3);
    due(x, 1, "undo");
    due(x, 2, "source", 9);
    x.noise(4);
    due(x, 2, "count", 8);
    due(x, 1, "undo");
    due(x, 2, "source", 9);
    due(x, 0, "undo");
    due(x, 1, "source", 9);
    x = fed(running(), "110");
    for (int n = 0; n < 3; n++) x.undo();
    due("the run of 11 behind undo()", x.source(3), 2);
    feed(x, "1");
    due("it goes on", x.source(3), 3);
  }
}
