// For each sentence under "Noise" and "Rings" about the rings themselves its boundary cases: the ends of each range,
// a phase that wraps around, halves that are rounded down, rings that just lock on or just do not.
public final class RingsEdgeTest extends Checks {
  public static void main(String[] args) {
    noiseHasARange();
    noiseWrapsAround();
    halvesAreRoundedDown();
    ringsHaveRanges();
    phasesStayBelowTheirPeriods();
    highIsBelowHalf();
    phasesWrapAround();
    noiseMovesAPhase();
    noiseIsAskedForOncePerRing();
    ringsLockOn();
    lockedPhaseWrapsAround();
    lockedRingAsksNoNoise();
    rawBitOfBothRings();
    finish();
  }

  // ---- objects

  // No jitter and no lock: with the phases at 0 one sample takes each phase to the step modulo its period.
  static JudgedBits unlocked(int period0, int period1, int step) {
    JudgedBits x = new JudgedBits();
    x.ring(0, period0, 0);
    x.ring(1, period1, 0);
    x.set(1, 0);
    x.set(0, step);
    return x;
  }

  static JudgedBits stepped(int period0, int period1, int step) {
    JudgedBits x = unlocked(period0, period1, step);
    x.sample(1);
    return x;
  }

  static void phasesAre(JudgedBits x, String when, int phase0, int phase1) {
    due("the phase 0 " + when, x.ringOf(0, 2), phase0);
    due("the phase 1 " + when, x.ringOf(1, 2), phase1);
  }

  // ---- noise

  static void noiseHasARange() {
    sentence("Noise", "There is a noise, a number from 1 to 65536 (1 at first).");
    JudgedBits x = new JudgedBits();
    due(x, 1, "source", 9);
    due(x, BAD, "noise", 0);
    due(x, BAD, "noise", 65537);
    due(x, 1, "source", 9);
    due(x, 1, "noise", 65536);
    due(x, 65536, "source", 9);
    due(x, 65536, "noise", 1);
    due(x, 1, "source", 9);
  }

  // The ring 1 is locked, so the noise is asked for once.
  static void noiseBecomes(int before, int after) {
    JudgedBits x = new JudgedBits();
    x.ring(0, 999, 99);
    x.ring(1, 999, 0);
    x.set(0, 1);
    x.noise(before);
    x.sample(1);
    due("the noise behind " + before, x.source(9), after);
    due("the phase by the noise behind " + before, x.ringOf(0, 2), 1 + after % 100);
  }

  static void noiseWrapsAround() {
    sentence("Noise", "When it is asked for, it becomes (itself times 75) modulo 65537, and that is told.");
    noiseBecomes(1, 75);
    noiseBecomes(873, 65475);       // 65475 is below 65537
    noiseBecomes(874, 13);          // 65550 is 13 above it
    noiseBecomes(65536, 65462);     // -1 becomes -75
    noiseBecomes(65535, 65387);
    noiseBecomes(45439, 1);         // 45439 * 75 = 52 * 65537 + 1
    noiseBecomes(20098, 65536);     // 20098 * 75 = 23 * 65537 - 1
  }

  // ---- periods, jitters, phases

  static void halvesAreRoundedDown() {
    sentence("Terms", "All divisions are rounded down.");
    due(stepped(11, 21, 5), 0, "ringOf", 0, 3);
    due(stepped(21, 11, 5), 0, "ringOf", 1, 3);
    due(stepped(13, 21, 5), 1, "ringOf", 0, 3);
    due(stepped(21, 13, 5), 1, "ringOf", 1, 3);
  }

  static void ringsHaveRanges() {
    sentence("Rings", "There are two rings, 0 and 1, each with a period (10 to 999; 100 for the ring 0 and 137 for the ring 1 at "
        + "first), a jitter (0 to 99; 7 at first), and a phase (0 to below its period; 0 at first).");
    int[] first = {100, 137};
    JudgedBits x = new JudgedBits();
    for (int ring = 0; ring < 2; ring++) {
      due(x, first[ring], "ringOf", ring, 0);
      due(x, 7, "ringOf", ring, 1);
      due(x, 0, "ringOf", ring, 2);
      due(x, BAD, "ring", ring, 9, 7);
      due(x, BAD, "ring", ring, 1000, 7);
      due(x, BAD, "ring", ring, 100, -1);
      due(x, BAD, "ring", ring, 100, 100);
      due(x, first[ring], "ringOf", ring, 0);
      due(x, 7, "ringOf", ring, 1);
      due(x, first[ring], "ring", ring, 10, 99);
      due(x, 10, "ringOf", ring, 0);
      due(x, 99, "ringOf", ring, 1);
      due(x, 10, "ring", ring, 999, 0);
      due(x, 999, "ringOf", ring, 0);
      due(x, 0, "ringOf", ring, 1);
    }
    for (int ring : new int[] {-1, 2}) {
      due(x, BAD, "ring", ring, 100, 7);
      for (int what = 0; what < 4; what++) due(x, BAD, "ringOf", ring, what);
    }
  }

  static void phasesStayBelowTheirPeriods() {
    sentence("Rings", "a phase (0 to below its period; 0 at first)");
    JudgedBits x = unlocked(10, 11, 1);
    for (int n = 1; n <= 23; n++) {
      x.sample(1);
      phasesAre(x, "behind " + n + " steps of 1", n % 10, n % 11);
    }
    x = unlocked(999, 998, 500);
    int[] of999 = {500, 1, 501, 2}, of998 = {500, 2, 502, 4};
    for (int n = 0; n < 4; n++) {
      x.sample(1);
      phasesAre(x, "behind " + (n + 1) + " steps of 500", of999[n], of998[n]);
    }
  }

  static void highIsBelowHalf() {
    sentence("Rings", "A ring is high if its phase is below half of its period (rounded down).");
    int[][] rows = {{10, 4, 1}, {10, 5, 0}, {11, 4, 1}, {11, 5, 0}, {12, 5, 1}, {12, 6, 0}, {10, 9, 0}, {10, 10, 1}, {10, 14, 1}, {10, 15, 0},
        {998, 498, 1}, {998, 499, 0}, {999, 498, 1}, {999, 499, 0}, {999, 500, 0}};
    for (int[] row : rows) {
      String when = "with the period " + row[0] + " behind the step " + row[1];
      due("the ring 0 " + when, stepped(row[0], 500, row[1]).ringOf(0, 3), row[2]);
      due("the ring 1 " + when, stepped(500, row[0], row[1]).ringOf(1, 3), row[2]);
    }
    JudgedBits x = new JudgedBits();
    due(x, 1, "ringOf", 0, 3);
    due(x, 1, "ringOf", 1, 3);
  }

  // ---- a ring that runs

  static final String RUNS = "For a sample, first the ring 0 runs, then the ring 1: its phase becomes (its phase, plus setting 0, plus the noise "
      + "modulo (its jitter plus 1)) modulo its period; the noise is asked for once for each ring, also with the jitter 0.";

  static void phasesWrapAround() {
    sentence("Rings", RUNS);
    phasesAre(stepped(500, 400, 399), "just below the period of the ring 1", 399, 399);
    phasesAre(stepped(500, 400, 400), "at the period of the ring 1", 400, 0);
    phasesAre(stepped(500, 400, 401), "just above the period of the ring 1", 401, 1);
    phasesAre(stepped(400, 500, 399), "just below the period of the ring 0", 399, 399);
    phasesAre(stepped(400, 500, 400), "at the period of the ring 0", 0, 400);
    phasesAre(stepped(400, 500, 401), "just above the period of the ring 0", 1, 401);
    phasesAre(stepped(10, 11, 500), "many times round", 0, 5);
    phasesAre(stepped(11, 10, 499), "many times round", 4, 9);
    phasesAre(stepped(999, 998, 1), "by the least step", 1, 1);
    JudgedBits x = unlocked(100, 90, 60);
    int[] of100 = {60, 20, 80, 40, 0, 60}, of90 = {60, 30, 0, 60, 30, 0};
    for (int n = 0; n < 6; n++) {
      x.sample(1);
      phasesAre(x, "behind " + (n + 1) + " steps of 60", of100[n], of90[n]);
    }
  }

  // The ring 1 is locked to the ring 0 of the same period, so that one noise moves both.
  static JudgedBits moved(int period, int jitter, int step, int noise) {
    JudgedBits x = new JudgedBits();
    x.ring(0, period, jitter);
    x.ring(1, period, 0);
    x.set(0, step);
    x.noise(noise);
    x.sample(1);
    return x;
  }

  // 41945 becomes 99, 21847 becomes 100, 1 becomes 75.
  static void noiseMovesAPhase() {
    sentence("Rings", RUNS);
    due(moved(999, 99, 1, 41945), 99, "source", 9);
    due(moved(999, 99, 1, 41945), 1 + 99, "ringOf", 0, 2);
    due(moved(999, 99, 1, 21847), 100, "source", 9);
    due(moved(999, 99, 1, 21847), 1, "ringOf", 0, 2);
    due(moved(999, 98, 1, 41945), 1, "ringOf", 0, 2);
    due(moved(999, 75, 1, 1), 1 + 75, "ringOf", 0, 2);
    due(moved(999, 74, 1, 1), 1, "ringOf", 0, 2);
    due(moved(999, 1, 1, 1), 2, "ringOf", 0, 2);
    due(moved(999, 0, 1, 1), 1, "ringOf", 0, 2);
    due(moved(101, 99, 1, 41945), 100, "ringOf", 0, 2);
    due(moved(100, 99, 1, 41945), 0, "ringOf", 0, 2);
    due(moved(99, 99, 1, 41945), 1, "ringOf", 0, 2);
    due(moved(10, 99, 500, 41945), 9, "ringOf", 0, 2);
  }

  static void noiseIsAskedForOncePerRing() {
    sentence("Rings", RUNS);
    JudgedBits x = unlocked(999, 500, 1);
    x.sample(1);
    due("the noise of two rings with the jitter 0", x.source(9), 5625);
    phasesAre(x, "with the jitter 0", 1, 1);
    x = unlocked(999, 500, 1);
    x.ring(0, 999, 99);
    x.ring(1, 500, 99);
    x.sample(1);
    due("the noise of two rings with the jitter 99", x.source(9), 5625);
    phasesAre(x, "first the ring 0 (75), then the ring 1 (5625)", 1 + 75, 1 + 25);
    x = unlocked(999, 500, 1);
    x.ring(1, 500, 99);
    x.sample(1);
    phasesAre(x, "the ring 0 asks also with the jitter 0", 1, 1 + 25);
  }

  // ---- rings that lock on

  static final String LOCKS = "But if the periods differ by setting 1 at most, the ring 1 locks on: its phase becomes that of the ring 0 (modulo its "
      + "own period), and the noise is not asked for it.";

  static void ringsLockOn() {
    sentence("Rings", LOCKS);
    int[][] rows = {{0, 100, 100, 1}, {0, 100, 101, 0}, {0, 101, 100, 0}, {1, 100, 101, 1}, {1, 101, 100, 1}, {1, 100, 102, 0}, {1, 102, 100, 0},
        {49, 100, 150, 0}, {49, 150, 100, 0}, {50, 100, 150, 1}, {50, 150, 100, 1}, {50, 100, 151, 0}, {50, 151, 100, 0}, {50, 10, 60, 1},
        {50, 999, 949, 1}, {50, 999, 948, 0}, {50, 10, 999, 0}, {50, 999, 10, 0}};
    for (int[] row : rows) {
      JudgedBits x = new JudgedBits();
      x.ring(0, row[1], 99);
      x.ring(1, row[2], 99);
      x.set(1, row[0]);
      x.set(0, 1);
      String when = "with the periods " + row[1] + ", " + row[2] + " and the lock " + row[0];
      due("source(8) " + when, x.source(8), row[3]);
      x.noise(874);
      x.ring(0, row[1], 2);
      x.sample(1);
      due("the noise " + when, x.source(9), row[3] == 1 ? 13 : 975);
      due("the phase 0 " + when, x.ringOf(0, 2), 1 + 13 % 3);
      due("the phase 1 " + when, x.ringOf(1, 2), row[3] == 1 ? 2 : 76 % row[2]);
    }
    JudgedBits x = new JudgedBits();
    due(x, 0, "source", 8);
    x.ring(1, 102, 7);
    due(x, 1, "source", 8);
    x.ring(1, 103, 7);
    due(x, 0, "source", 8);
    x.ring(1, 98, 7);
    due(x, 1, "source", 8);
    x.ring(1, 97, 7);
    due(x, 0, "source", 8);
  }

  static void lockedPhaseWrapsAround() {
    sentence("Rings", LOCKS);
    int[][] rows = {{150, 100, 99, 99, 99}, {150, 100, 100, 100, 0}, {150, 100, 101, 101, 1}, {150, 100, 149, 149, 49}, {150, 100, 150, 0, 0},
        {60, 10, 59, 59, 9}, {60, 10, 60, 0, 0}, {60, 10, 61, 1, 1}, {100, 150, 99, 99, 99}, {100, 150, 100, 0, 0}, {100, 150, 149, 49, 49}};
    for (int[] row : rows) {
      JudgedBits x = unlocked(row[0], row[1], row[2]);
      x.set(1, 50);
      x.sample(1);
      phasesAre(x, "with the periods " + row[0] + ", " + row[1] + " and the step " + row[2], row[3], row[4]);
    }
    JudgedBits x = unlocked(100, 120, 30);
    x.sample(1);
    x.set(1, 50);
    x.ring(0, 100, 0);
    x.sample(1);
    phasesAre(x, "locked: its own phase of 30 is no matter", 30, 30);
  }

  static void lockedRingAsksNoNoise() {
    sentence("Rings", LOCKS);
    JudgedBits x = new JudgedBits();
    x.ring(1, 102, 99);
    x.sample(1);
    due("the noise behind one locked sample", x.source(9), 75);
    phasesAre(x, "37 + 75 modulo 8, its own jitter is no matter", 40, 40);
    x.ring(1, 103, 0);
    x.noise(1);
    x.sample(1);
    due("the noise behind one that is not locked", x.source(9), 5625);
  }

  static void rawBitOfBothRings() {
    sentence("Rings", "The raw bit of the sample is 1 if one ring is high and the other one is not, otherwise 0.");
    int[][] rows = {{40, 60, 10, 1, 1, 0}, {40, 15, 10, 1, 0, 1}, {15, 40, 10, 0, 1, 1}, {15, 14, 10, 0, 0, 0},
        {22, 20, 10, 1, 0, 1}, {20, 22, 10, 0, 1, 1}, {20, 21, 10, 0, 0, 0}, {23, 22, 10, 1, 1, 0}};
    for (int[] row : rows) {
      JudgedBits x = stepped(row[0], row[1], row[2]);
      due("high 0 of " + row[0] + ", " + row[1], x.ringOf(0, 3), row[3]);
      due("high 1 of " + row[0] + ", " + row[1], x.ringOf(1, 3), row[4]);
      due("the raw bit of " + row[0] + ", " + row[1], x.raw(0), row[5]);
    }
  }
}
