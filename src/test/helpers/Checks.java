import java.io.IOException;
import java.nio.file.Files;
import java.nio.file.Path;
import java.util.ArrayList;
import java.util.List;

/** What the tests with answers worked out by hand share: what is due, of which sentence, and objects in known states. */
class Checks {
  static final int BAD = -1000001, CANNOT = -1000002, FULL = -1000003, NONE = -1000004;
  static final int LOW = Integer.MIN_VALUE, HIGH = Integer.MAX_VALUE;
  private static final Path DOCUMENT = Path.of("../shared/DOC.md");

  private static String place = "";
  private static int checks = 0, wrong = 0, sentences = 0, checksBefore = 0;

  // ---- what is due

  static void promise(int number) {
    part("promise " + number);
  }

  /** The checks behind it are of this part of the project. */
  static void part(String name) {
    place = name;
  }

  /** The checks behind it are of this sentence, which stands in the document under this heading. */
  static void sentence(String heading, String words) {
    endSentence();
    place = heading + ", \"" + words + "\"";
    sentences++;
    if (!standsInDocument(heading, words)) fault("there is no such sentence");
  }

  /** The checks behind it are of this rule of LANGUAGE.md. */
  static void rule(int number) {
    endSentence();
    place = "LANGUAGE.md, rule " + number;
    sentences++;
  }

  // A sentence that no check is of would be as good as none.
  private static void endSentence() {
    if (sentences > 0 && checks == checksBefore) fault("no check is of it");
    checksBefore = checks;
  }

  static void due(String call, long got, long want) {
    checks++;
    if (got != want) fault(call + " answered " + got + ", due is " + want);
  }

  static void due(JudgedBits x, long want, String name, int... with) {
    due(told(name, with), call(x, name, with), want);
  }

  static void fault(String told) {
    wrong++;
    System.out.println(place + ": " + told);
  }

  static void finish() {
    endSentence();
    String of = sentences > 0 ? " of " + sentences + " sentences" : "";
    System.out.println(checks + " answers" + of + " looked at, " + wrong + " not as due");
    if (wrong != 0 || checks == 0) System.exit(1);
  }

  // ---- the document

  private static boolean standsInDocument(String heading, String words) {
    if (!Files.exists(DOCUMENT)) return true;
    boolean under = false;
    for (String line : documentLines()) {
      if (line.startsWith("#")) under = line.replaceFirst("^#+ ", "").equals(heading);
      else if (under && line.contains(words)) return true;
    }
    return false;
  }

  private static List<String> documentLines() {
    try {
      return Files.readAllLines(DOCUMENT);
    } catch (IOException e) {
      throw new IllegalStateException(e);
    }
  }

  // ---- calls by their names

  static int call(JudgedBits x, String name, int... with) {
    switch (name) {
      case "ring": return x.ring(with[0], with[1], with[2]);
      case "noise": return x.noise(with[0]);
      case "sample": return x.sample(with[0]);
      case "draw": return x.draw(with[0]);
      case "restart": return x.restart();
      case "set": return x.set(with[0], with[1]);
      case "ringOf": return x.ringOf(with[0], with[1]);
      case "source": return x.source(with[0]);
      case "raw": return x.raw(with[0]);
      case "stored": return x.stored(with[0]);
      case "would": return x.would(with[0], with[1]);
      case "takes": return x.takes(with[0]);
      case "bestPeriod": return x.bestPeriod(with[0]);
      case "share": return x.share();
      case "count": return x.count(with[0]);
      case "undo": return x.undo();
      case "type": return x.type(with[0]);
      case "clearText": return x.clearText();
      case "fault": return x.fault(with[0]);
      case "play": return x.play();
      default: throw new IllegalArgumentException(name);
    }
  }

  static String told(String name, int... with) {
    StringBuilder told = new StringBuilder(name).append('(');
    for (int i = 0; i < with.length; i++) told.append(i > 0 ? ", " : "").append(with[i]);
    return told.append(')').toString();
  }

  // ---- objects in a state that is known

  // With the step 20 and no jitter the ring 0 (period 20) stays high and the ring 1 (period 40) alternates: 1, 0, 1, 0.
  static JudgedBits alternating() {
    JudgedBits x = new JudgedBits();
    x.ring(0, 20, 0);
    x.ring(1, 40, 0);
    x.set(0, 20);
    return x;
  }

  // Behind its start up; its window is empty, its run is 1, its latest raw bit is 0.
  static JudgedBits running() {
    JudgedBits x = alternating();
    x.sample(64);
    return x;
  }

  // From the phase 0 the step 20 takes the ring 1 to low (raw bit 1), the step 40 leaves it high (raw bit 0).
  static int feed(JudgedBits x, String bits) {
    int stored = 0;
    for (char bit : bits.toCharArray()) {
      x.ring(1, 40, 0);
      x.set(0, bit == '1' ? 20 : 40);
      stored += x.sample(1);
    }
    return stored;
  }

  // 64 ones in the store, none lost, none waits.
  static JudgedBits withFullStore() {
    JudgedBits x = running();
    x.sample(128);
    return x;
  }

  // By the run test, with an empty store.
  static JudgedBits inAlarm() {
    JudgedBits x = running();
    x.set(2, 2);
    feed(x, "111");
    return x;
  }

  // By the run test, with the bits 1, 0 in the store.
  static JudgedBits inAlarmWithTwo() {
    JudgedBits x = running();
    feed(x, "1001");
    x.set(2, 2);
    feed(x, "000");
    return x;
  }

  // Raw bits in runs of 39; each second change of them is within a pair, so a bit is stored each 78 samples.
  static JudgedBits slow() {
    JudgedBits x = running();
    x.set(2, 40);
    x.set(3, 0);
    x.set(0, 10);
    x.ring(0, 10, 0);
    x.ring(1, 780, 0);
    return x;
  }

  static void write(JudgedBits x, String text) {
    x.clearText();
    for (char c : text.toCharArray()) x.type(c);
  }

  static String times(int many, String part) {
    return part.repeat(many);
  }

  // ---- all that can be seen

  /** What a source tells without going on, but for the history and the text. */
  static List<Integer> picture(JudgedBits x, int bits) {
    List<Integer> seen = new ArrayList<>();
    for (int w = 0; w < 10; w++) seen.add(x.source(w));
    for (int w = 0; w < 8; w++) seen.add(x.ringOf(w / 4, w % 4));
    for (int w = 0; w < 8; w++) seen.add(x.count(w));
    for (int w = 20; w < 24; w++) seen.add(x.count(w));
    for (int i = 0; i < bits; i++) seen.add(x.raw(i));
    for (int i = 0; i < bits; i++) seen.add(x.stored(i));
    seen.add(x.share());
    return seen;
  }
}
