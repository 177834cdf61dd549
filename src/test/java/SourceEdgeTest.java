// For each sentence on the tests, the start up, the alarm, the pairs and the store its boundary cases: the last bit that
// passes and the first that fails, the window and the store just below full, full and just beyond, the 64th raw bit.
public final class SourceEdgeTest extends Checks {
  public static void main(String[] args) {
    runBegins();
    runGoesOn();
    windowFills();
    windowsAreApart();
    onlyAFullWindowIsLookedAt();
    failingBitCounts();
    runTestHasAnEdge();
    runTestByAChangedSetting();
    shareTestHasEdges();
    sourceHasThreeStates();
    startUpEndsWithThe64th();
    startUpDoesNothingElse();
    startUpFails();
    alarmByTheRunTest();
    runTestIsLookedAtFirst();
    alarmDoesNothingElse();
    pairsOfTwo();
    storeFills();
    storeLosesAndTakesAgain();
    alarmBitIsNotTaken();
    waitingBitIsForgotten();
    finish();
  }

  // ---- objects

  // Behind its start up, with the widest limits of both tests.
  static JudgedBits lenient() {
    JudgedBits x = running();
    x.set(2, 40);
    x.set(3, 0);
    return x;
  }

  static JudgedBits fed(JudgedBits x, String bits) {
    feed(x, bits);
    return x;
  }

  // In its start up, which ends with a raw bit 0 that is the first of a run.
  static JudgedBits startingUp(int many) {
    JudgedBits x = alternating();
    x.sample(many);
    return x;
  }

  // ---- the run

  static final String RUN = "The run is how many tested raw bits one behind another, up to the latest one, are the same.";

  static void runBegins() {
    sentence("Rings", RUN);
    due(new JudgedBits(), 0, "source", 3);
    due(startingUp(1), 1, "source", 3);
    due(startingUp(2), 1, "source", 3);
    due(fed(startingUp(1), "1"), 2, "source", 3);
    due(fed(startingUp(1), "11"), 3, "source", 3);
    due(fed(startingUp(1), "110"), 1, "source", 3);
    due(fed(startingUp(1), "1100"), 2, "source", 3);
    JudgedBits x = fed(running(), "00");
    x.restart();
    due("the run behind restart()", x.source(3), 0);
    feed(x, "0");
    due("the run of one more 0 behind restart()", x.source(3), 1);
    x = inAlarm();
    feed(x, "1");
    due("the run behind a bit that is not tested", x.source(3), 3);
  }

  static void runGoesOn() {
    sentence("Rings", RUN);
    JudgedBits x = fed(startingUp(62), "00");
    due("the run at the end of the start up", x.source(3), 3);
    due("it is running", x.source(0), 1);
    feed(x, "0");
    due("the run goes on behind it", x.source(3), 4);
    x = fed(lenient(), times(31, "1"));
    due("the run with 31 in the window", x.source(3), 31);
    feed(x, "1");
    due("the run with the full window", x.source(3), 32);
    feed(x, "1");
    due("the run goes on with the next window", x.source(3), 33);
    due("which has one", x.source(4), 1);
  }

  // ---- the window

  static final String WINDOW = "The window is the tested raw bits since the last window was full, 32 at most; when it is full with a raw bit, its "
      + "ones are looked at, and it is empty for the next one.";

  static void windowIs(JudgedBits x, String when, int bits, int ones) {
    due("the bits in the window " + when, x.source(4), bits);
    due("the ones in the window " + when, x.source(5), ones);
  }

  static void windowFills() {
    sentence("Rings", WINDOW);
    windowIs(new JudgedBits(), "of a new object", 0, 0);
    int[][] rows = {{1, 1, 1}, {2, 2, 1}, {30, 30, 15}, {31, 31, 16}, {32, 0, 0}, {33, 1, 1}, {63, 31, 16}, {64, 0, 0}, {65, 1, 1},
        {95, 31, 16}, {96, 0, 0}, {97, 1, 1}, {300, 12, 6}};
    for (int[] row : rows) windowIs(startingUp(row[0]), "behind " + row[0] + " samples", row[1], row[2]);
    windowIs(fed(lenient(), times(31, "1")), "of 31 ones", 31, 31);
    windowIs(fed(lenient(), times(32, "1")), "of 32 ones", 0, 0);
    windowIs(fed(lenient(), times(33, "1")), "of 33 ones", 1, 1);
    windowIs(fed(lenient(), times(31, "0")), "of 31 zeros", 31, 0);
    windowIs(fed(lenient(), times(33, "0")), "of 33 zeros", 1, 0);
    JudgedBits x = startingUp(31);
    x.restart();
    windowIs(x, "behind restart()", 0, 0);
    x.sample(31);
    windowIs(x, "31 behind restart()", 31, 15);
  }

  // 32 ones one behind another, but 16 of them in each window.
  static void windowsAreApart() {
    sentence("Rings", WINDOW);
    JudgedBits x = lenient();
    x.set(3, 16);
    feed(x, times(16, "0") + times(16, "1"));
    due("running behind 16 and 16", x.source(0), 1);
    feed(x, times(16, "1") + times(15, "0"));
    windowIs(x, "of the second", 31, 16);
    feed(x, "0");
    due("running behind the second", x.source(0), 1);
    windowIs(x, "behind the second", 0, 0);
  }

  static void onlyAFullWindowIsLookedAt() {
    sentence("Rings", WINDOW);
    JudgedBits x = lenient();
    x.set(3, 16);
    feed(x, times(31, "0"));
    due("running with 31 zeros in the window", x.source(0), 1);
    feed(x, "1");
    due("in alarm with the 32nd bit", x.source(0), 2);
    windowIs(x, "that has failed", 0, 0);
    x = lenient();
    x.set(3, 16);
    feed(x, times(17, "1"));
    due("running with 17 ones in the window", x.source(0), 1);
    x.set(3, 0);
    feed(x, times(15, "0"));
    due("the setting 3 at the full window is what counts", x.source(0), 1);
  }

  // ---- what a failing bit counts for

  static void failingBitCounts() {
    sentence("Rings", "A raw bit counts in the run and in the window also if it fails a test.");
    JudgedBits x = inAlarm();
    due("by the run test", x.source(1), 1);
    due("the run with the third one", x.source(3), 3);
    windowIs(x, "with the third one", 3, 3);
    due("the longest run with it", x.count(7), 3);
    x = running();
    x.set(2, 2);
    feed(x, "00");
    due("by the run test", x.source(1), 1);
    due("the run with the third zero", x.source(3), 3);
    windowIs(x, "with the second zero", 2, 0);
    x = lenient();
    x.set(3, 1);
    feed(x, times(32, "0"));
    due("by the share test", x.source(1), 2);
    due("the run with the bit that fails it", x.source(3), 33);
    due("the longest run with it", x.count(7), 33);
    x = lenient();
    x.set(2, 31);
    feed(x, times(32, "1"));
    due("by the run test", x.source(1), 1);
    due("the run with the bit that fills the window", x.source(3), 32);
    windowIs(x, "which the bit that fails makes full", 0, 0);
  }

  // ---- the limits of the tests

  static final String FAILS = "It fails the run test if the run is above setting 2 with it; it fails the share test if it makes the window full, and "
      + "the ones in it are fewer than setting 3, or more than 32 less setting 3.";

  static void runTestHasAnEdge() {
    sentence("Rings", FAILS);
    for (int longest : new int[] {2, 3, 12, 39, 40}) {
      for (String bit : new String[] {"0", "1"}) {
        JudgedBits x = lenient();
        if (bit.equals("0")) feed(x, "1");
        x.set(2, longest);
        feed(x, times(longest, bit));
        due("the run of " + longest, x.source(3), longest);
        due("a run of " + longest + " with the setting " + longest, x.source(0), 1);
        feed(x, bit);
        due("a run of one more than " + longest, x.source(0), 2);
        due("its test", x.source(1), 1);
        due("its run", x.source(3), longest + 1);
      }
    }
    JudgedBits x = running();
    feed(x, times(12, "1"));
    due("a run of 12 with the first setting", x.source(0), 1);
    feed(x, "1");
    due("a run of 13 with the first setting", x.source(1), 1);
  }

  static void runTestByAChangedSetting() {
    sentence("Rings", FAILS);
    JudgedBits x = fed(lenient(), "1111");
    x.set(2, 3);
    due("a run of 4 under which the setting falls", x.source(0), 1);
    due("would(0, 1)", x.would(0, 1), 1);
    feed(x, "0");
    due("the run that ends", x.source(0), 1);
    x = fed(lenient(), "1111");
    x.set(2, 3);
    feed(x, "1");
    due("the next like bit", x.source(1), 1);
    x = fed(lenient(), "1111");
    x.set(2, 5);
    feed(x, "1");
    due("a run of 5 with the setting 5", x.source(0), 1);
    x.set(2, 6);
    feed(x, "1");
    due("a run of 6 with the setting 6", x.source(0), 1);
  }

  static void shareTestHasEdges() {
    sentence("Rings", FAILS);
    int[][] rows = {{0, 0, 1}, {0, 32, 1}, {1, 0, 2}, {1, 1, 1}, {1, 31, 1}, {1, 32, 2}, {6, 5, 2}, {6, 6, 1}, {6, 26, 1}, {6, 27, 2},
        {15, 14, 2}, {15, 15, 1}, {15, 17, 1}, {15, 18, 2}, {16, 15, 2}, {16, 16, 1}, {16, 17, 2}};
    for (int[] row : rows) {
      String ones = times(row[1], "1"), zeros = times(32 - row[1], "0");
      shareIs(row, ones + zeros);
      shareIs(row, zeros + ones);
    }
  }

  static void shareIs(int[] row, String bits) {
    JudgedBits x = lenient();
    x.set(3, row[0]);
    feed(x, bits.substring(0, 31));
    String told = row[1] + " ones with the setting " + row[0] + ", the last bit " + bits.charAt(31);
    due(told + ", without it", x.source(0), 1);
    feed(x, bits.substring(31));
    due(told, x.source(0), row[2]);
    due("the test of " + told, x.source(1), row[2] == 2 ? 2 : NONE);
  }

  // ---- start up, running, alarm

  static void sourceHasThreeStates() {
    sentence("Rings", "The source is in the start up (at first), is running, or in alarm.");
    due(new JudgedBits(), 0, "source", 0);
    due(running(), 1, "source", 0);
    due(inAlarm(), 2, "source", 0);
  }

  static final String START_UP = "In the start up the first 64 raw bits are tested, and nothing else is done with them; with the 64th it is running, "
      + "if none of them failed a test.";

  static void startUpEndsWithThe64th() {
    sentence("Rings", START_UP);
    int[][] rows = {{1, 0, 63}, {2, 0, 62}, {62, 0, 2}, {63, 0, 1}, {64, 1, NONE}, {65, 1, NONE}};
    due(new JudgedBits(), 64, "source", 2);
    for (int[] row : rows) {
      due("source(0) behind " + row[0], startingUp(row[0]).source(0), row[1]);
      due("source(2) behind " + row[0], startingUp(row[0]).source(2), row[2]);
      due("would(" + row[0] + ", 1)", alternating().would(row[0], 1), row[1]);
    }
    JudgedBits x = startingUp(63);
    x.restart();
    due("wanted behind restart() with 63", x.source(2), 64);
    x.sample(63);
    due("still in the start up", x.source(0), 0);
    x.sample(1);
    due("running with the 64th of the new one", x.source(0), 1);
  }

  static void startUpDoesNothingElse() {
    sentence("Rings", START_UP);
    for (int many : new int[] {1, 63, 64}) {
      JudgedBits x = startingUp(many);
      String when = " behind " + many;
      due("waits" + when, x.source(7), NONE);
      due("in the store" + when, x.source(6), 0);
      due("left out" + when, x.count(2), 0);
      due("went into the store" + when, x.count(3), 0);
      due("lost" + when, x.count(4), 0);
    }
    JudgedBits x = startingUp(65);
    due("the 65th waits", x.source(7), 1);
    due("and is in no pair with the 64th", x.source(6) + x.count(2), 0);
    x = startingUp(66);
    due("the 66th ends a pair", x.source(6), 1);
    due("with the 65th as its first one", x.stored(0), 1);
    due("none waits", x.source(7), NONE);
  }

  static void startUpFails() {
    sentence("Rings", START_UP);
    JudgedBits x = alternating();
    x.set(2, 2);
    x.sample(61);
    feed(x, "11");
    due("the 63rd fails the run test", x.source(0), 2);
    x = alternating();
    x.set(2, 2);
    x.sample(62);
    feed(x, "00");
    due("the 64th fails the run test", x.source(0), 2);
    due("none is wanted then", x.source(2), NONE);
    due("as one alarm", x.count(6), 1);
    x.sample(300);
    due("it does not run by itself", x.source(0), 2);
    x = alternating();
    x.set(2, 2);
    x.sample(63);
    feed(x, "0");
    due("the 64th passes", x.source(0), 1);
    x = alternating();
    x.set(3, 16);
    x.sample(63);
    feed(x, "1");
    due("the 64th fails the share test", x.source(0), 2);
    due("by the share test", x.source(1), 2);
    x = alternating();
    x.set(3, 16);
    x.sample(31);
    feed(x, "1");
    due("the 32nd fails the share test", x.source(1), 2);
    x = alternating();
    x.set(3, 16);
    x.sample(64);
    due("16 ones in each window pass", x.source(0), 1);
  }

  static final String BRINGS = "A raw bit that fails a test, in the start up or running, brings the alarm; the run test is looked at first.";

  static void alarmByTheRunTest() {
    sentence("Rings", BRINGS);
    JudgedBits x = alternating();
    x.set(2, 2);
    feed(x, "00");
    due("the second raw bit", x.source(0), 0);
    feed(x, "0");
    due("the third raw bit, the earliest that can fail", x.source(0), 2);
    due("by the run test", x.source(1), 1);
    due("as one alarm", x.count(6), 1);
    x = fed(startingUp(62), "00");
    x.set(2, 3);
    due("running with a run of 3", x.source(0), 1);
    feed(x, "0");
    due("the first one behind the start up fails", x.source(1), 1);
    x.restart();
    due("no test is told behind restart()", x.source(1), NONE);
    feed(x, "0000");
    due("it fails again in the new start up", x.source(1), 1);
    due("as a second alarm", x.count(6), 2);
  }

  static void runTestIsLookedAtFirst() {
    sentence("Rings", BRINGS);
    for (int least : new int[] {0, 1, 16}) {
      JudgedBits x = lenient();
      x.set(2, 31);
      x.set(3, least);
      feed(x, times(32, "1"));
      due("32 ones with the settings 31 and " + least, x.source(1), 1);
      due("alarms of it", x.count(6), 1);
    }
    JudgedBits x = lenient();
    x.set(2, 32);
    x.set(3, 1);
    feed(x, times(32, "1"));
    due("32 ones with the settings 32 and 1", x.source(1), 2);
    due("alarms of it", x.count(6), 1);
    x = alternating();
    x.set(2, 31);
    x.set(3, 16);
    feed(x, times(32, "0"));
    due("32 zeros in the start up", x.source(1), 1);
    due("alarms of it", x.count(6), 1);
  }

  static void alarmDoesNothingElse() {
    sentence("Rings", "In alarm raw bits are made, but not tested, and nothing else is done with them.");
    JudgedBits x = inAlarmWithTwo();
    int[] source = {2, 1, NONE, 3, 7, 2, 2, NONE, 0};
    for (int w = 0; w < 9; w++) due(x, source[w], "source", w);
    feed(x, times(50, "1"));
    for (int w = 0; w < 9; w++) due(x, source[w], "source", w);
    int[] counts = {64 + 7 + 50, 32 + 2 + 50, 1, 2, 0, 0, 1, 3};
    for (int w = 0; w < 8; w++) due(x, counts[w], "count", w);
    for (int i = 0; i < 50; i++) due(x, 1, "raw", i);
    due(x, 0, "raw", 50);
    feed(x, "0");
    due(x, 0, "raw", 0);
    x = inAlarm();
    int noise = x.source(9);
    x.noise(1);
    x.set(0, 7);
    x.sample(1);
    due("the noise is asked for in alarm", x.source(9), 5625);
    due("the noise that it had was another one", noise != 5625 ? 1 : 0, 1);
    due("the ring 0 runs in alarm", x.ringOf(0, 2), 7);
    due("the ring 1 runs in alarm", x.ringOf(1, 2), 27);
    due("sample(300) in alarm", x.sample(300), 0);
    due("samples", x.count(0), 64 + 3 + 301);
    due("none is lost", x.count(4), 0);
  }

  // ---- pairs and the store

  static void pairsOfTwo() {
    sentence("Rings", "Running, raw bits that fail no test are taken two by two: of a pair of unlike bits the first one goes into the store; a pair "
        + "of like bits is left out.");
    String[] pairs = {"00", "01", "10", "11"};
    int[] stored = {NONE, 0, 1, NONE};
    for (int i = 0; i < 4; i++) {
      JudgedBits x = running();
      due("the first of " + pairs[i], feed(x, pairs[i].substring(0, 1)), 0);
      due("the first of " + pairs[i] + " waits", x.source(7), pairs[i].charAt(0) - '0');
      due("the second of " + pairs[i], feed(x, pairs[i].substring(1)), stored[i] == NONE ? 0 : 1);
      due("none waits behind " + pairs[i], x.source(7), NONE);
      due("the store behind " + pairs[i], x.stored(0), stored[i]);
      due("left out behind " + pairs[i], x.count(2), stored[i] == NONE ? 1 : 0);
      due("went into the store behind " + pairs[i], x.count(3), stored[i] == NONE ? 0 : 1);
    }
    JudgedBits x = fed(running(), "0110");
    due("no pair of the second and the third", x.source(6), 2);
    due(x, 0, "stored", 0);
    due(x, 1, "stored", 1);
    x = running();
    x.sample(3);
    due("one pair of 3 samples", x.source(6), 1);
    x.sample(3);
    due("three pairs of 3 and 3", x.source(6), 3);
  }

  static final String STORE = "The store has 64 bits at most; when it is full, the bit is lost.";

  static void storeFills() {
    sentence("Rings", STORE);
    int[][] rows = {{0, 0, 0}, {2, 1, 0}, {126, 63, 0}, {127, 63, 0}, {128, 64, 0}, {129, 64, 0}, {130, 64, 1}, {132, 64, 2}};
    for (int[] row : rows) {
      JudgedBits x = running();
      if (row[0] > 0) due("sample(" + row[0] + ")", x.sample(row[0]), row[1]);
      String when = " behind " + row[0];
      due("the store" + when, x.source(6), row[1]);
      due("went into it" + when, x.count(3), row[1]);
      due("lost" + when, x.count(4), row[2]);
      due("the next place" + when, x.stored(row[1]), NONE);
    }
  }

  static void storeLosesAndTakesAgain() {
    sentence("Rings", STORE);
    JudgedBits x = withFullStore();
    due("01 into the full store", feed(x, "01"), 0);
    due("lost", x.count(4), 1);
    due("went into it", x.count(3), 64);
    due("none waits", x.source(7), NONE);
    due("the first one stays", x.stored(0), 1);
    due("the last one stays", x.stored(63), 1);
    due("00 is left out of the full store", feed(x, "00"), 0);
    due("lost by 00", x.count(4), 1);
    due("left out", x.count(2), 1);
    feed(x, "0");
    due("a bit waits at the full store", x.source(7), 0);
    due("draw(1)", x.draw(1), 1);
    due("its pair goes into the store again", feed(x, "1"), 1);
    due("as the last one", x.stored(63), 0);
    due("the one before it", x.stored(62), 1);
    due("the store is full", x.source(6), 64);
    due("10 is lost again", feed(x, "10"), 0);
    due("lost", x.count(4), 2);
    due("went into it", x.count(3), 65);
    due("the last one stays", x.stored(63), 0);
  }

  static final String FORGOTTEN = "A bit that brings the alarm is not taken, and the first bit of a pair that waits then is forgotten; so is it when the "
      + "source is started anew.";

  static void alarmBitIsNotTaken() {
    sentence("Rings", FORGOTTEN);
    JudgedBits x = inAlarm();
    due("a first bit of a pair that brings the alarm", x.source(7), NONE);
    due("the pair 11 ahead of it", x.count(2), 1);
    x = lenient();
    x.set(3, 2);
    feed(x, times(31, "0"));
    due("a 0 waits", x.source(7), 0);
    feed(x, "1");
    due("the 1 brings the alarm", x.source(1), 2);
    due("01 does not go into the store", x.source(6), 0);
    due("01 does not go into the store", x.count(3), 0);
    due("the 15 pairs ahead are left out", x.count(2), 15);
    due("none waits", x.source(7), NONE);
    x = withFullStore();
    x.set(2, 40);
    x.set(3, 2);
    feed(x, times(31, "0") + "1");
    due("the 1 brings the alarm", x.source(1), 2);
    due("it is not lost", x.count(4), 0);
  }

  static void waitingBitIsForgotten() {
    sentence("Rings", FORGOTTEN);
    JudgedBits x = running();
    x.set(2, 2);
    feed(x, "011");
    due("a 1 waits", x.source(7), 1);
    feed(x, "1");
    due("it is forgotten in alarm", x.source(7), NONE);
    due("and is in no pair", x.count(2), 0);
    due("01 ahead of it stays", x.source(6), 1);
    x = fed(running(), "1");
    x.restart();
    due("it is forgotten with restart()", x.source(7), NONE);
    x.ring(1, 40, 0);
    x.set(0, 20);
    x.sample(64);
    feed(x, "0");
    due("a 0 waits behind the new start up", x.source(7), 0);
    due("in no pair with the 1 from before", x.source(6), 0);
    x = running();
    x.restart();
    due("none waited at restart()", x.source(7), NONE);
  }
}
