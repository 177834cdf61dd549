import java.util.List;

// For each promise of the document calls with the answers that it asks for, worked out by hand.
public final class PromiseTest extends Checks {
  public static void main(String[] args) {
    promise(1); newObject();
    promise(2); ring();
    promise(3); noise();
    promise(4); sample(); rings(); runTest(); shareTest(); startUp(); pairs();
    promise(5); draw();
    promise(6); restart();
    promise(7); set();
    promise(8); ringOf();
    promise(9); source();
    promise(10); raw();
    promise(11); stored();
    promise(12); would();
    promise(13); takes();
    promise(14); bestPeriod();
    promise(15); share();
    promise(16); count();
    promise(17); undo();
    promise(18); type();
    promise(19); clearText();
    promise(20); fault();
    promise(21); play();
    finish();
  }

  // ---- the promises

  static void newObject() {
    JudgedBits x = new JudgedBits();
    int[] source = {0, NONE, 64, 0, 0, 0, 0, NONE, 0, 1};
    for (int w = 0; w < 10; w++) due("source(" + w + ")", x.source(w), source[w]);
    int[] rings = {100, 7, 0, 1, 137, 7, 0, 1};
    for (int w = 0; w < 8; w++) due("ringOf(" + w / 4 + ", " + w % 4 + ")", x.ringOf(w / 4, w % 4), rings[w]);
    for (int w = 0; w < 10; w++) due("count(" + w + ")", x.count(w), 0);
    int[] settings = {37, 2, 12, 6};
    for (int w = 0; w < 4; w++) due("count(2" + w + ")", x.count(20 + w), settings[w]);
    due("raw(0)", x.raw(0), NONE);
    due("stored(0)", x.stored(0), NONE);
    due("share()", x.share(), NONE);
    due("undo()", x.undo(), CANNOT);
    due("fault(0)", x.fault(0), NONE);
    due("INVALID_ARGUMENT", JudgedBits.INVALID_ARGUMENT, BAD);
    due("NOT_POSSIBLE", JudgedBits.NOT_POSSIBLE, CANNOT);
    due("LIMIT_REACHED", JudgedBits.LIMIT_REACHED, FULL);
    due("NOT_FOUND", JudgedBits.NOT_FOUND, NONE);
  }

  static void ring() {
    JudgedBits x = new JudgedBits();
    int[][] bad = {{-1, 100, 7}, {2, 100, 7}, {0, 9, 7}, {1, 1000, 7}, {0, 100, -1}, {1, 100, 100}, {LOW, LOW, LOW}, {HIGH, HIGH, HIGH}};
    for (int[] b : bad) due("ring(" + b[0] + ", " + b[1] + ", " + b[2] + ")", x.ring(b[0], b[1], b[2]), BAD);
    due("no history by errors", x.count(8), 0);
    due("period 0 as before", x.ringOf(0, 0), 100);
    x.sample(1);
    due("phase 0 after a sample", x.ringOf(0, 2), 40);
    due("phase 1 after a sample", x.ringOf(1, 2), 38);
    due("ring(0, 10, 99)", x.ring(0, 10, 99), 100);
    due("phase 0 is 0", x.ringOf(0, 2), 0);
    due("phase 1 stays", x.ringOf(1, 2), 38);
    due("ring(0, 999, 0)", x.ring(0, 999, 0), 10);
    due("ring(1, 999, 99)", x.ring(1, 999, 99), 137);
    due("ring(1, 999, 99) again", x.ring(1, 999, 99), 999);
    due("jitter 0", x.ringOf(0, 1), 0);
    due("jitter 1", x.ringOf(1, 1), 99);
    due("raw bits stay", x.raw(0), 0);
    due("noise stays", x.source(9), 5625);
    due("history", x.count(8), 4);
  }

  static void noise() {
    JudgedBits x = new JudgedBits();
    for (int b : new int[] {0, -1, 65537, LOW, HIGH}) due("noise(" + b + ")", x.noise(b), BAD);
    due("noise stays", x.source(9), 1);
    due("no history by errors", x.count(8), 0);
    due("noise(65536)", x.noise(65536), 1);
    due("noise(1)", x.noise(1), 65536);
    due("noise(874)", x.noise(874), 1);
    due("source(9)", x.source(9), 874);
    x.ring(1, 100, 0);
    x.sample(1);
    due("874 * 75 modulo 65537, asked for once", x.source(9), 13);
    due("history", x.count(8), 4);
  }

  static void sample() {
    JudgedBits x = new JudgedBits();
    for (int b : new int[] {0, -1, 301, LOW, HIGH}) due("sample(" + b + ")", x.sample(b), BAD);
    due("no samples by errors", x.count(0), 0);
    due("no history by errors", x.count(8), 0);
    x = alternating();
    due("sample(300)", x.sample(300), 64);
    due("all of 236 bits in pairs, 54 lost", x.count(4), 54);
    due("sample(300) into a full store", x.sample(300), 0);
    due("samples", x.count(0), 600);
    due("lost", x.count(4), 204);
    due("history", x.count(8), 4);
    due("one change", x.undo(), 3);
    due("samples behind undo", x.count(0), 300);
    due("sample(1) with the pair open", x.sample(1), 0);
    x = running();
    due("sample(1)", x.sample(1), 0);
    due("sample(1) ends a pair", x.sample(1), 1);
    due("sample(10)", x.sample(10), 5);
  }

  static void rings() {
    JudgedBits x = new JudgedBits();
    x.ring(0, 10, 0);
    x.ring(1, 11, 0);
    x.set(1, 0);
    x.set(0, 5);
    x.sample(1);
    due("5 of 10 is low", x.ringOf(0, 3), 0);
    due("5 of 11 is low", x.ringOf(1, 3), 0);
    due("raw bit of low and low", x.raw(0), 0);
    due("noise is asked for with the jitter 0", x.source(9), 5625);
    x.sample(1);
    due("phase 10 of 10 is 0", x.ringOf(0, 2), 0);
    due("phase 10 of 11", x.ringOf(1, 2), 10);
    due("raw bit of high and low", x.raw(0), 1);
    x.sample(1);
    due("phase 15 of 11", x.ringOf(1, 2), 4);
    due("4 of 11 is high", x.ringOf(1, 3), 1);
    due("raw bit of low and high", x.raw(0), 1);

    x = new JudgedBits();
    x.ring(0, 110, 0);
    x.ring(1, 100, 50);
    x.set(0, 105);
    x.set(1, 9);
    x.sample(1);
    due("10 apart, 9 allowed", x.source(8), 0);
    due("noise asked for twice", x.source(9), 5625);
    due("105 + 5625 modulo 51, modulo 100", x.ringOf(1, 2), (105 + 5625 % 51) % 100);
    x.set(1, 10);
    due("10 apart, 10 allowed", x.source(8), 1);
    x.ring(0, 110, 0);
    x.noise(1);
    x.sample(1);
    due("noise asked for once", x.source(9), 75);
    due("105 of 110", x.ringOf(0, 2), 105);
    due("105 modulo 100", x.ringOf(1, 2), 5);
    x.ring(0, 90, 99);
    due("90 and 100", x.source(8), 1);
    x.ring(0, 89, 99);
    due("89 and 100", x.source(8), 0);
    x.ring(1, 89, 0);
    x.set(1, 0);
    due("equal ones lock also with 0", x.source(8), 1);
  }

  static void runTest() {
    JudgedBits x = running();
    x.set(2, 3);
    feed(x, "111");
    due("a run of 3 passes", x.source(0), 1);
    due("run", x.source(3), 3);
    feed(x, "1");
    due("a run of 4 fails", x.source(0), 2);
    due("by the run test", x.source(1), 1);
    due("it counts in the run", x.source(3), 4);
    due("it counts in the window", x.source(4), 4);
    due("and in its ones", x.source(5), 4);
    due("longest run", x.count(7), 4);
    feed(x, "10");
    due("untested in alarm: run", x.source(3), 4);
    due("untested in alarm: window", x.source(4), 4);
    due("kept in alarm: latest", x.raw(0), 0);
    due("kept in alarm: the one before", x.raw(1), 1);
    due("one alarm", x.count(6), 1);
    due("samples", x.count(0), 70);

    x = running();
    feed(x, "11111");
    x.set(2, 2);
    feed(x, "0");
    due("a long run that ends is no fault", x.source(0), 1);
    x = running();
    feed(x, "1111");
    x.set(2, 2);
    due("set() alone brings no alarm", x.source(0), 1);
    feed(x, "1");
    due("but the next like bit does", x.source(0), 2);
    due("run", x.source(3), 5);

    x = running();
    x.set(2, 40);
    x.set(3, 16);
    feed(x, "11111111111111111111111111111110");
    due("31 ones and the least 16", x.source(1), 2);
    x = running();
    x.set(2, 31);
    x.set(3, 16);
    feed(x, "11111111111111111111111111111111");
    due("both tests fail: the run test is told", x.source(1), 1);
    due("one alarm of both", x.count(6), 1);
    due("the full window is empty all the same", x.source(4), 0);
    due("and its ones", x.source(5), 0);
  }

  static void shareTest() {
    String zeros = "0000000000000000000000000000000000", ones = "11111111111111111111111111111111";
    int[][] rows = {{6, 6, 1}, {7, 6, 2}, {6, 26, 1}, {7, 26, 2}, {16, 16, 1}, {16, 15, 2}, {16, 17, 2}, {0, 0, 1}, {0, 32, 1}, {1, 0, 2}, {1, 32, 2}};
    for (int[] row : rows) {
      JudgedBits x = running();
      x.set(2, 40);
      x.set(3, row[0]);
      String bits = ones.substring(0, row[1]) + zeros.substring(0, 32 - row[1]);
      feed(x, bits.substring(0, 31));
      due("31 in the window", x.source(4), 31);
      due("ones in the window", x.source(5), Math.min(31, row[1]));
      due("running until it is full", x.source(0), 1);
      feed(x, bits.substring(31));
      String told = row[1] + " ones with the least " + row[0];
      due(told, x.source(0), row[2]);
      due(told + ": test", x.source(1), row[2] == 2 ? 2 : NONE);
      due(told + ": window", x.source(4), 0);
      due(told + ": ones", x.source(5), 0);
    }
  }

  static void startUp() {
    JudgedBits x = alternating();
    due("sample(63)", x.sample(63), 0);
    due("in the start up", x.source(0), 0);
    due("1 is wanted", x.source(2), 1);
    due("sample(1)", x.sample(1), 0);
    due("running", x.source(0), 1);
    due("none is wanted", x.source(2), NONE);
    due("the 64 are in no pair", x.source(7), NONE);
    due("none is stored", x.source(6), 0);
    due("none is left out", x.count(2), 0);

    x = alternating();
    x.set(2, 2);
    x.sample(60);
    feed(x, "000");
    due("the 62nd or 63rd fails", x.source(0), 2);
    due("nothing is wanted in alarm", x.source(2), NONE);
    due("alarms", x.count(6), 1);
    x.sample(300);
    due("it stays in alarm", x.source(0), 2);
    due("no second alarm", x.count(6), 1);

    x = alternating();
    x.set(2, 2);
    x.sample(61);
    feed(x, "000");
    due("the 64th fails", x.source(0), 2);
    due("by the run test", x.source(1), 1);
  }

  static void pairs() {
    JudgedBits x = running();
    due("11, 00 are left out", feed(x, "1100"), 0);
    due("left out", x.count(2), 2);
    due("10, 01 are stored", feed(x, "1001"), 2);
    due("first bit of the first", x.stored(0), 1);
    due("first bit of the second", x.stored(1), 0);
    feed(x, "1");
    due("one waits", x.source(7), 1);
    feed(x, "1");
    due("none waits", x.source(7), NONE);
    feed(x, "0");
    due("a 0 waits", x.source(7), 0);
    due("left out", x.count(2), 3);
    due("stored", x.count(3), 2);
    due("lost", x.count(4), 0);

    x = running();
    x.set(2, 2);
    feed(x, "10" + "11");
    due("a pair and a pair", x.count(3) + 10 * x.count(2), 11);
    feed(x, "0");
    due("0 waits", x.source(7), 0);
    feed(x, "0");
    feed(x, "0");
    due("000 brings the alarm", x.source(0), 2);
    due("the bit of the alarm is not taken", x.source(7), NONE);
    due("the pair 00 before it is left out", x.count(2), 2);
    due("the store stays", x.source(6), 1);

    x = running();
    x.set(2, 2);
    feed(x, "011");
    due("1 waits", x.source(7), 1);
    feed(x, "1");
    due("the bit that waits is forgotten", x.source(7), NONE);
    due("no pair of it", x.count(2), 0);

    x = running();
    x.sample(128);
    due("full", x.source(6), 64);
    due("none lost", x.count(4), 0);
    due("a like pair is not lost", feed(x, "11"), 0);
    due("none lost by it", x.count(4), 0);
    due("an unlike pair is", feed(x, "01"), 0);
    due("one lost", x.count(4), 1);
    due("the last one stays", x.stored(63), 1);
    due("stored", x.count(3), 64);
  }

  static void draw() {
    JudgedBits x = running();
    for (int b : new int[] {0, -1, 25, LOW, HIGH}) due("draw(" + b + ")", x.draw(b), BAD);
    due("draw(1) of none", x.draw(1), CANNOT);
    feed(x, "10010110");
    due("the store is 1, 0, 0, 1", x.source(6), 4);
    due("draw(5)", x.draw(5), CANNOT);
    due("draw(25) of too few", x.draw(25), BAD);
    due("draw(3)", x.draw(3), 4);
    due("one is left", x.source(6), 1);
    due("it is a 1", x.stored(0), 1);
    due("nothing behind it", x.stored(1), NONE);
    due("drawn", x.count(5), 3);
    due("draw(1)", x.draw(1), 1);
    due("draw(1) of none", x.draw(1), CANNOT);
    due("drawn", x.count(5), 4);

    x = running();
    x.sample(128);
    due("24 ones", x.draw(24), 16777215);
    due("40 are left", x.source(6), 40);
    int before = x.count(8);
    due("undo()", x.undo(), before - 1);
    due("64 again", x.source(6), 64);
    due("none drawn", x.count(5), 0);

    x = inAlarm();
    feed(x, "10");
    due("in alarm", x.source(0), 2);
    due("draw(0) in alarm", x.draw(0), BAD);
    due("draw(1) in alarm", x.draw(1), CANNOT);
    x = running();
    feed(x, "10");
    x.set(2, 2);
    feed(x, "111");
    due("in alarm with a bit", x.source(6), 1);
    due("draw(1) in alarm with a bit", x.draw(1), CANNOT);
    due("the bit stays", x.source(6), 1);
    due("none drawn", x.count(5), 0);
  }

  static void restart() {
    JudgedBits x = running();
    feed(x, "1001" + "1");
    int noise = x.source(9);
    due("restart()", x.restart(), 2);
    int[] source = {0, NONE, 64, 0, 0, 0, 0, NONE, 0, noise};
    for (int w = 0; w < 10; w++) due("source(" + w + ")", x.source(w), source[w]);
    due("raw bits stay", x.raw(0), 1);
    due("raw bits stay", x.raw(63), 0);
    due("a setting stays", x.count(20), 20);
    due("a period stays", x.ringOf(0, 0), 20);
    due("a phase stays", x.ringOf(1, 2), 20);
    due("counts stay", x.count(0), 69);
    due("counts stay", x.count(3), 2);
    due("stored(0)", x.stored(0), NONE);
    due("restart() again", x.restart(), 0);
    feed(x, "1");
    due("the run begins with 1", x.source(3), 1);
    due("63 are wanted", x.source(2), 63);

    x = inAlarm();
    due("restart() in alarm", x.restart(), 0);
    due("in the start up", x.source(0), 0);
    due("no test is told", x.source(1), NONE);
    due("alarms stay", x.count(6), 1);
    due("the longest run stays", x.count(7), 3);
    int states = x.count(8);
    due("undo()", x.undo(), states - 1);
    due("in alarm", x.source(0), 2);
    due("run", x.source(3), 3);
  }

  static void set() {
    int[] least = {1, 0, 2, 0}, most = {500, 50, 40, 16}, first = {37, 2, 12, 6};
    JudgedBits x = new JudgedBits();
    for (int w = 0; w < 4; w++) {
      for (int b : new int[] {least[w] - 1, most[w] + 1, LOW, HIGH}) due("set(" + w + ", " + b + ")", x.set(w, b), BAD);
      due("setting " + w, x.count(20 + w), first[w]);
    }
    for (int w : new int[] {-1, 4, LOW, HIGH}) due("set(" + w + ", 5)", x.set(w, 5), BAD);
    due("no history by errors", x.count(8), 0);
    for (int w = 0; w < 4; w++) {
      due("set(" + w + ", " + least[w] + ")", x.set(w, least[w]), first[w]);
      due("set(" + w + ", " + most[w] + ")", x.set(w, most[w]), least[w]);
      due("setting " + w, x.count(20 + w), most[w]);
    }
    due("history", x.count(8), 4);
    due("undo()", x.undo(), 3);
    due("setting 3", x.count(23), 0);
  }

  static void ringOf() {
    JudgedBits x = new JudgedBits();
    int[][] bad = {{-1, 0}, {2, 0}, {0, -1}, {1, 4}, {LOW, LOW}, {HIGH, HIGH}, {0, LOW}, {1, HIGH}};
    for (int[] b : bad) due("ringOf(" + b[0] + ", " + b[1] + ")", x.ringOf(b[0], b[1]), BAD);
    x.ring(0, 11, 3);
    x.ring(1, 999, 98);
    x.set(0, 4);
    x.noise(1);
    x.sample(1);
    due("11, 3, 4 + 75 modulo 4", x.ringOf(0, 2), 7);
    due("7 of 11 is low", x.ringOf(0, 3), 0);
    due("its period", x.ringOf(0, 0), 11);
    due("its jitter", x.ringOf(0, 1), 3);
    due("999, 98, 4 + 5625 modulo 99", x.ringOf(1, 2), 85);
    due("85 of 999 is high", x.ringOf(1, 3), 1);
    due("its period", x.ringOf(1, 0), 999);
    due("its jitter", x.ringOf(1, 1), 98);
  }

  static void source() {
    JudgedBits x = running();
    for (int b : new int[] {-1, 10, LOW, HIGH}) due("source(" + b + ")", x.source(b), BAD);
    feed(x, "110100");
    int[] want = {1, NONE, NONE, 2, 6, 3, 1, NONE, 0};
    for (int w = 0; w < 9; w++) due("running: source(" + w + ")", x.source(w), want[w]);
    feed(x, "0");
    due("0 waits", x.source(7), 0);
    x = inAlarm();
    int[] alarm = {2, 1, NONE, 3, 3, 3, 0, NONE, 0};
    for (int w = 0; w < 9; w++) due("in alarm: source(" + w + ")", x.source(w), alarm[w]);
  }

  static void raw() {
    JudgedBits x = alternating();
    for (int b : new int[] {-1, 64, LOW, HIGH}) due("raw(" + b + ")", x.raw(b), BAD);
    due("raw(0) of none", x.raw(0), NONE);
    feed(x, "110");
    due("raw(0)", x.raw(0), 0);
    due("raw(1)", x.raw(1), 1);
    due("raw(2)", x.raw(2), 1);
    due("raw(3)", x.raw(3), NONE);
    due("raw(63)", x.raw(63), NONE);
    x = alternating();
    x.sample(63);
    due("raw(62) of 63", x.raw(62), 1);
    due("raw(63) of 63", x.raw(63), NONE);
    x.sample(1);
    due("raw(63) of 64", x.raw(63), 1);
    feed(x, "0");
    due("raw(63) of 65", x.raw(63), 0);
    due("raw(62) of 65", x.raw(62), 1);
    due("raw(64) of 65", x.raw(64), BAD);
  }

  static void stored() {
    JudgedBits x = running();
    due("stored(-1)", x.stored(-1), BAD);
    due("stored(LOW)", x.stored(LOW), BAD);
    due("stored(HIGH)", x.stored(HIGH), NONE);
    due("stored(0) of none", x.stored(0), NONE);
    feed(x, "011010");
    int[] want = {0, 1, 1, NONE, NONE};
    for (int i = 0; i < 5; i++) due("stored(" + i + ")", x.stored(i), want[i]);
    x = running();
    x.sample(126);
    feed(x, "01");
    due("stored(62) of 64", x.stored(62), 1);
    due("stored(63) of 64", x.stored(63), 0);
    due("stored(64) of 64", x.stored(64), NONE);
    due("stored(100) of 64", x.stored(100), NONE);
  }

  static void would() {
    JudgedBits x = alternating();
    int[][] bad = {{-1, 0}, {301, 0}, {0, -1}, {300, 3}, {LOW, LOW}, {HIGH, HIGH}};
    for (int[] b : bad) due("would(" + b[0] + ", " + b[1] + ")", x.would(b[0], b[1]), BAD);
    due("would(0, 0)", x.would(0, 0), 0);
    due("would(63, 1)", x.would(63, 1), 0);
    due("would(64, 1)", x.would(64, 1), 1);
    due("would(65, 0)", x.would(65, 0), 0);
    due("would(66, 0)", x.would(66, 0), 1);
    due("would(192, 0)", x.would(192, 0), 64);
    due("would(192, 2)", x.would(192, 2), 0);
    due("would(194, 2)", x.would(194, 2), 1);
    due("would(300, 2)", x.would(300, 2), 54);
    due("nothing has come", x.count(0), 0);
    due("noise stays", x.source(9), 1);
    int states = x.count(8);
    due("no change", states, 3);
    x.sample(300);
    due("would(0, 0)", x.would(0, 0), 64);
    due("would(0, 2): by these samples", x.would(0, 2), 0);
    due("would(1, 2)", x.would(1, 2), 0);
    due("would(2, 2)", x.would(2, 2), 1);
    x = inAlarm();
    due("would(300, 1) in alarm", x.would(300, 1), 2);
    due("would(0, 1) in alarm", x.would(0, 1), 2);
  }

  static void takes() {
    JudgedBits x = alternating();
    for (int b : new int[] {0, -1, 65, LOW, HIGH}) due("takes(" + b + ")", x.takes(b), BAD);
    due("takes(1)", x.takes(1), 66);
    due("takes(64)", x.takes(64), 192);
    x.sample(67);
    due("takes(1) with one", x.takes(1), 0);
    due("takes(2) with one, half way", x.takes(2), 1);
    due("takes(3)", x.takes(3), 3);
    due("nothing has come", x.count(0), 67);
    x.sample(300);
    due("takes(64) with 64", x.takes(64), 0);
    due("takes(3) with 64", x.takes(3), 0);
    x = inAlarm();
    due("takes(1) in alarm", x.takes(1), NONE);
    x = running();
    feed(x, "10");
    x.set(2, 2);
    feed(x, "111");
    due("takes(1) in alarm with one", x.takes(1), 0);
    due("takes(2) in alarm with one", x.takes(2), NONE);

    due("takes(25) of one in 78", slow().takes(25), 1950);
    due("takes(26) of one in 78", slow().takes(26), NONE);
    x = slow();
    x.sample(27);
    due("takes(26) with the sample 2001", x.takes(26), NONE);
    x.sample(1);
    due("takes(26) with the sample 2000", x.takes(26), 2000);
  }

  // Locked up to the period 60; with the period p beyond it the raw bits come in runs of p / 20.
  static JudgedBits manyPeriods() {
    JudgedBits x = new JudgedBits();
    x.set(0, 10);
    x.set(1, 50);
    x.set(2, 40);
    x.ring(0, 10, 0);
    x.ring(1, 400, 0);
    return x;
  }

  static void bestPeriod() {
    JudgedBits x = manyPeriods();
    for (int b : new int[] {-1, 2, LOW, HIGH}) due("bestPeriod(" + b + ")", x.bestPeriod(b), BAD);
    due("a change at each 4th, from 68 to 200", x.bestPeriod(0), 80);
    due("a change at each 4th, from 68 to 200", x.bestPeriod(1), 34);
    due("nothing has come", x.count(0), 0);
    due("the period stays", x.ringOf(1, 0), 400);
    due("no change", x.count(8), 4);
    x.sample(1);
    due("phase 0 behind an odd sample: at each 10th from 65", x.bestPeriod(0), 100);
    due("phase 0 behind an odd sample: at each 10th from 65", x.bestPeriod(1), 14);
    due("the phase stays", x.ringOf(1, 2), 10);
    x = running();
    x.sample(128);
    due("of several the lowest", x.bestPeriod(0), 20);
    due("64 at most", x.bestPeriod(1), 64);
    x = running();
    feed(x, "10");
    x.set(2, 2);
    feed(x, "111");
    due("in alarm the lowest", x.bestPeriod(0), 20);
    due("in alarm what there is", x.bestPeriod(1), 1);
    for (int noise = 1; noise < 60000; noise += 1999) bestPeriodByRing(noise);
  }

  static void bestPeriodByRing(int noise) {
    JudgedBits x = new JudgedBits();
    x.noise(noise);
    x.ring(0, 10 + noise % 500, noise % 7);
    x.ring(1, 77, noise % 23);
    x.set(0, 1 + noise % 11);
    x.set(2, 40);
    x.set(3, 1);
    x.sample(1 + noise % 70);
    int best = 0, most = -1;
    for (int period = 20; period <= 400; period += 20) {
      x.ring(1, period, noise % 23);
      int bits = x.would(200, 0);
      x.undo();
      if (bits > most) { best = period; most = bits; }
    }
    due("bestPeriod(0) with the noise " + noise, x.bestPeriod(0), best);
    due("bestPeriod(1) with the noise " + noise, x.bestPeriod(1), most);
  }

  static void share() {
    JudgedBits x = alternating();
    due("share() of none", x.share(), NONE);
    feed(x, "0");
    due("0 of 1", x.share(), 0);
    feed(x, "1");
    due("1 of 2", x.share(), 1056964608);
    feed(x, "1");
    due("2 of 3", x.share(), 1059760811);
    x.restart();
    due("2 of 3 behind restart()", x.share(), 1059760811);
    x = alternating();
    feed(x, "1");
    due("1 of 1", x.share(), 1065353216);
    for (int ones = 0; ones <= 64; ones++) {
      x = alternating();
      for (int kept = 1; kept <= 64; kept++) {
        feed(x, kept <= ones ? "1" : "0");
        float share = (float) Math.min(ones, kept) / (float) kept;
        due(ones + " ones of " + kept, x.share(), Float.floatToIntBits(share));
      }
      feed(x, "00");
      float share = (float) Math.max(0, ones - 2) / 64f;
      due("64 are kept", x.share(), Float.floatToIntBits(share));
    }
  }

  static void count() {
    JudgedBits x = running();
    for (int b : new int[] {-1, 10, 19, 24, LOW, HIGH}) due("count(" + b + ")", x.count(b), BAD);
    int[] started = {64, 32, 0, 0, 0, 0, 0, 1, 4, 0};
    for (int w = 0; w < 10; w++) due("running: count(" + w + ")", x.count(w), started[w]);
    feed(x, "1001" + "1100" + "01");
    x.draw(2);
    x.type('n');
    x.set(2, 2);
    feed(x, "000");
    x.sample(2);
    int[] alarm = {79, 37, 3, 3, 0, 2, 1, 3, 4, 1};
    for (int w = 0; w < 10; w++) due("in alarm: count(" + w + ")", x.count(w), alarm[w]);
    x.restart();
    x.set(2, 12);
    x.set(0, 20);
    x.sample(64 + 128 + 2);
    int[] again = {273, 37 + 97, 3, 67, 1, 2, 1, 3, 4, 1};
    for (int w = 0; w < 10; w++) due("anew: count(" + w + ")", x.count(w), again[w]);
    due("the store", x.source(6), 64);
    int[] settings = {20, 2, 12, 6};
    for (int w = 0; w < 4; w++) due("count(2" + w + ")", x.count(20 + w), settings[w]);
  }

  static void undo() {
    JudgedBits x = new JudgedBits();
    due("undo() of none", x.undo(), CANNOT);
    x.noise(10);
    x.noise(20);
    x.noise(30);
    x.noise(40);
    due("4 states", x.count(8), 4);
    x.noise(50);
    due("4 states at most", x.count(8), 4);
    for (int left = 3; left >= 0; left--) {
      due("undo()", x.undo(), left);
      due("noise", x.source(9), 10 * left + 10);
      due("states", x.count(8), left);
    }
    due("undo() of none", x.undo(), CANNOT);
    due("noise", x.source(9), 10);

    String[] names = {"ring", "noise", "sample", "draw", "restart", "set", "play"};
    for (int w = 0; w < names.length; w++) {
      x = running();
      feed(x, "10011");
      write(x, "s7;");
      List<Integer> before = picture(x, 20);
      due(names[w] + " is a change", change(x, w) >= 0 ? 1 : 0, 1);
      due("undo() of " + names[w], x.undo(), 3);
      List<Integer> after = picture(x, 20);
      for (int i = 0; i < before.size(); i++) due("number " + i + " behind undo() of " + names[w], after.get(i), before.get(i));
      due("the text stays", x.count(9), 3);
    }
    x.clearText();
    due("the text is not brought back", x.undo(), 2);
    due("length", x.count(9), 0);
  }

  static int change(JudgedBits x, int which) {
    switch (which) {
      case 0: return x.ring(0, 30, 4);
      case 1: return x.noise(999);
      case 2: return x.sample(9);
      case 3: return x.draw(2);
      case 4: return x.restart();
      case 5: return x.set(3, 2);
      default: return x.play();
    }
  }

  static void type() {
    JudgedBits x = new JudgedBits();
    for (int b : new int[] {31, 127, 0, -1, LOW, HIGH, 65536 + 's'}) due("type(" + b + ")", x.type(b), BAD);
    due("length", x.count(9), 0);
    due("type(32)", x.type(32), 1);
    due("type(126)", x.type(126), 2);
    for (int n = 3; n <= 60; n++) due("type('s')", x.type('s'), n);
    due("type of the 61st", x.type('s'), FULL);
    due("a wrong one of the 61st", x.type(31), BAD);
    due("length", x.count(9), 60);
    due("it is no change", x.count(8), 0);
    due("the first is no order", x.fault(0), 0);
    x.clearText();
    due("type behind clearText()", x.type('s'), 1);
  }

  static void clearText() {
    JudgedBits x = new JudgedBits();
    due("clearText() of none", x.clearText(), 0);
    write(x, "s1;q");
    due("clearText()", x.clearText(), 4);
    due("length", x.count(9), 0);
    due("no fault", x.fault(0), NONE);
    due("clearText() again", x.clearText(), 0);
    due("it is no change", x.count(8), 0);
    write(x, "n;");
    x.clearText();
    x.type('n');
    due("what was there is gone", x.fault(2), 1);
  }

  static void faultIs(JudgedBits x, String text, int place, int reason, int cause) {
    write(x, text);
    due("place in " + text, x.fault(0), place);
    due("reason in " + text, x.fault(1), reason);
    due("cause in " + text, x.fault(2), cause);
    int states = x.count(8), samples = x.count(0);
    due("play() of " + text, x.play(), CANNOT);
    due("no change by it", x.count(8), states);
    due("no samples by it", x.count(0), samples);
  }

  static void fault() {
    JudgedBits x = new JudgedBits();
    for (int b : new int[] {-1, 3, LOW, HIGH}) due("fault(" + b + ")", x.fault(b), BAD);
    for (int w = 0; w < 3; w++) due("fault(" + w + ") of no text", x.fault(w), NONE);
    String[] fine = {"n;", "s1;", "s001;", "s300;", "x1;", "x999;", "r0,10,0;", "r1,999,99;", "r001,010,000;", "n;n;s64;x5;r0,20,3;"};
    for (String text : fine) {
      write(x, text);
      for (int w = 0; w < 3; w++) due("fault(" + w + ") of " + text, x.fault(w), NONE);
    }
    String[] broken = {"q", ";", " n;", "N;", "1;", ",", "\u007e"};
    for (String text : broken) faultIs(new JudgedBits(), text, 0, 1, 0);
    String[] breaksAt1 = {"n", "n1;", "n ;", "s", "s;", "s-1;", "d;", "dd;", "x;", "x,", "r;", "r,", "s/1;", "s:1;"};
    for (String text : breaksAt1) faultIs(new JudgedBits(), text, 0, 1, 1);
    x = new JudgedBits();
    faultIs(x, "s1", 0, 1, 2);
    faultIs(x, "s1,", 0, 1, 2);
    faultIs(x, "s12", 0, 1, 3);
    faultIs(x, "s1234;", 0, 1, 4);
    faultIs(x, "x0001;", 0, 1, 4);
    faultIs(x, "r0", 0, 1, 2);
    faultIs(x, "r0;", 0, 1, 2);
    faultIs(x, "r0001,20,3;", 0, 1, 4);
    faultIs(x, "r0,", 0, 1, 3);
    faultIs(x, "r0,,", 0, 1, 3);
    faultIs(x, "r0,20", 0, 1, 5);
    faultIs(x, "r0,20;", 0, 1, 5);
    faultIs(x, "r0,1000,3;", 0, 1, 6);
    x = new JudgedBits();
    faultIs(x, "r0,20,", 0, 1, 6);
    faultIs(x, "r0,20,;", 0, 1, 6);
    faultIs(x, "r0,20,3", 0, 1, 7);
    faultIs(x, "r0,20,3,", 0, 1, 7);
    faultIs(x, "r0,20,0003;", 0, 1, 9);
    faultIs(x, "n;s1;q", 5, 1, 0);
    faultIs(x, "n;s1;s", 5, 1, 1);
    faultIs(x, "n;;", 2, 1, 0);
    String[] wrong = {"s0;", "s301;", "s999;", "d0;", "d25;", "d000;", "x0;", "x000;", "r2,20,3;", "r0,9,3;", "r0,20,100;", "r1,000,0;", "r999,999,999;"};
    for (String text : wrong) faultIs(new JudgedBits(), text, 0, 2, BAD);
    x = new JudgedBits();
    faultIs(x, "d1;", 0, 2, CANNOT);
    faultIs(x, "d1;q", 0, 2, CANNOT);
    faultIs(x, "q;d1;", 0, 1, 0);
    faultIs(x, "n;d24;", 2, 2, CANNOT);
    x = alternating();
    write(x, "s64;s4;d2;");
    due("done ahead: two are stored", x.fault(0), NONE);
    due("done for the fault alone", x.count(0), 0);
    faultIs(x, "s64;s4;d3;", 7, 2, CANNOT);
    faultIs(x, "s64;s4;d2;d1;", 10, 2, CANNOT);
    faultIs(x, "s64;s4;n;d1;", 9, 2, CANNOT);
    faultIs(x, "s64;s4;d25;", 7, 2, BAD);
    faultIs(x, "s64;s4;r1,20,0;s13;d1;", 19, 2, CANNOT);
    due("no fault is left by it", x.source(0), 0);
  }

  static void play() {
    JudgedBits x = alternating();
    due("play() of none", x.play(), 0);
    due("it is a change", x.count(8), 4);
    due("undo()", x.undo(), 3);
    x = new JudgedBits();
    due("play() of none", x.play(), 0);
    due("it is a change", x.count(8), 1);
    write(x, "r0,20,0;r001,040,00;x07;n;");
    due("play()", x.play(), 4);
    due("one change", x.count(8), 2);
    due("period 0", x.ringOf(0, 0), 20);
    due("jitter 0", x.ringOf(0, 1), 0);
    due("period 1", x.ringOf(1, 0), 40);
    due("jitter 1", x.ringOf(1, 1), 0);
    due("noise", x.source(9), 7);
    due("the text stays", x.count(9), 26);
    due("play() again", x.play(), 4);
    due("undo()", x.undo(), 2);
    due("undo()", x.undo(), 1);
    due("period 0 as before", x.ringOf(0, 0), 100);
    due("the text stays", x.count(9), 26);

    x = alternating();
    write(x, "s64;s11;d3;");
    due("play()", x.play(), 3);
    due("samples", x.count(0), 75);
    due("stored", x.count(3), 5);
    due("drawn", x.count(5), 3);
    due("store", x.source(6), 2);
    due("one waits", x.source(7), 1);
    write(x, "n;s64;s300;x1;s");
    due("play() with a fault", x.play(), CANNOT);
    due("nothing of it is done", x.count(0), 75);
    write(x, "n;n;n;n;n;n;n;n;n;n;n;n;n;n;n;n;n;n;n;n;n;n;n;n;n;n;n;n;n;n;");
    due("play() of 30", x.play(), 30);
    due("restarted", x.source(6), 0);
    write(x, "s300;s300;s300;s300;s300;s300;s300;s300;s300;s300;s300;s300;");
    due("play() of 12", x.play(), 12);
    due("samples", x.count(0), 3675);
    due("undo() of all", x.undo(), 3);
    due("samples", x.count(0), 75);
  }
}
