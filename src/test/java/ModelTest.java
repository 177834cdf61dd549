import java.util.ArrayDeque;
import java.util.ArrayList;
import java.util.Arrays;
import java.util.Deque;
import java.util.List;
import java.util.Random;
import java.util.regex.Matcher;
import java.util.regex.Pattern;

// Runs of calls chosen by numbers that are the same each time, each answer beside that of a second writing of the
// document, which keeps its bits in lists and reads texts by a pattern.
public final class ModelTest {
  static final int BAD = -1000001, CANNOT = -1000002, FULL = -1000003, NONE = -1000004;
  static final int RUNS = 3000, CALLS = 512;
  private static int wrong = 0;
  private static final int[][] seen = new int[20][5];

  public static void main(String[] args) {
    for (int run = 0; run < RUNS && wrong < 20; run++) run(run);
    for (int call = 0; call < seen.length; call++) expectSeen(call);
    System.out.println(RUNS + " runs of " + CALLS + " calls, " + wrong + " wrong");
    if (wrong != 0) System.exit(1);
  }

  // That the runs reach every kind of answer is looked at too, so that they can't become empty unseen: of each call
  // A an answer, B an argument out of range, C not possible, F no more room, N no such value.
  static void expectSeen(int call) {
    String[] kinds = {"AB", "AB", "AB", "ABC", "A", "AB", "AB", "ABN", "ABN", "ABN", "AB", "ABN", "AB", "AN", "AB", "AC", "ABF", "A",
        "ABCN", "AC"};
    for (int kind = 0; kind < 5; kind++) {
      boolean wanted = kinds[call].indexOf("ABCFN".charAt(kind)) >= 0;
      if (wanted != seen[call][kind] > 0) {
        wrong++;
        System.out.println("answers of the kind " + "ABCFN".charAt(kind) + " of the call " + call + ": " + seen[call][kind]);
      }
    }
  }

  static void run(int number) {
    Random random = new Random(number);
    JudgedBits x = new JudgedBits();
    Chooser chooser = new Chooser(random, number);
    Model model = new Model();
    StringBuilder told = new StringBuilder();
    for (int n = 0; n < CALLS; n++) {
      int[] call = chooser.next(model);
      int got = real(x, call), want = model.answer(call);
      seen[call[0]][want >= 0 ? 0 : -1000000 - want]++;
      told.append(Arrays.toString(call)).append(" = ").append(got).append('\n');
      if (got != want) {
        wrong++;
        String all = told.toString();
        System.out.println("run " + number + ", call " + n + ", due is " + want + ", the last calls:\n"
            + all.substring(Math.max(0, all.length() - 600)));
        return;
      }
    }
  }

  static int real(JudgedBits x, int[] c) {
    switch (c[0]) {
      case 0: return x.ring(c[1], c[2], c[3]);
      case 1: return x.noise(c[1]);
      case 2: return x.sample(c[1]);
      case 3: return x.draw(c[1]);
      case 4: return x.restart();
      case 5: return x.set(c[1], c[2]);
      case 6: return x.ringOf(c[1], c[2]);
      case 7: return x.source(c[1]);
      case 8: return x.raw(c[1]);
      case 9: return x.stored(c[1]);
      case 10: return x.would(c[1], c[2]);
      case 11: return x.takes(c[1]);
      case 12: return x.bestPeriod(c[1]);
      case 13: return x.share();
      case 14: return x.count(c[1]);
      case 15: return x.undo();
      case 16: return x.type(c[1]);
      case 17: return x.clearText();
      case 18: return x.fault(c[1]);
      default: return x.play();
    }
  }

  // ---- which call comes next

  static final class Chooser {
    final Random random;
    final boolean wild;
    final Deque<Integer> waiting = new ArrayDeque<>();

    Chooser(Random random, int number) {
      this.random = random;
      // In some runs the tests are lenient, so that the source is not always in alarm.
      wild = number % 3 == 0;
    }

    int[] next(Model model) {
      if (!waiting.isEmpty()) return new int[] {16, waiting.poll()};
      int pick = random.nextInt(100);
      if (pick < 6) return new int[] {0, near(0, 1), near(10, random.nextBoolean() ? 999 : 60), near(0, random.nextBoolean() ? 99 : 3)};
      if (pick < 8) return new int[] {1, near(1, 65536)};
      if (pick < 20) return new int[] {2, near(1, random.nextInt(3) == 0 ? 300 : 40)};
      if (pick < 25) return new int[] {3, near(1, 24)};
      if (pick < 28) return new int[] {4};
      if (pick < 33) return setting();
      if (pick < 37) return new int[] {6, near(0, 1), near(0, 3)};
      if (pick < 53) return new int[] {7, near(0, 9)};
      if (pick < 57) return new int[] {8, near(0, 63)};
      if (pick < 62) return new int[] {9, near(0, random.nextBoolean() ? 66 : 5)};
      if (pick < 66) return new int[] {10, near(0, 300), near(0, 2)};
      if (pick < 68) return new int[] {11, near(1, 64)};
      if (pick < 69) return random.nextInt(4) == 0 ? new int[] {12, near(0, 1)} : new int[] {13};
      if (pick < 72) return new int[] {13};
      if (pick < 83) return new int[] {14, random.nextInt(3) == 0 ? near(20, 23) : near(0, 9)};
      if (pick < 86) return new int[] {15};
      if (pick < 88) return new int[] {16, near(32, 126)};
      if (pick < 90) return write();
      if (pick < 96) return new int[] {18, near(0, 2)};
      if (pick < 99) return new int[] {19};
      return new int[] {17};
    }

    int[] setting() {
      int what = near(0, 3);
      if (what == 2 && !wild) return new int[] {5, 2, near(20, 40)};
      if (what == 3 && !wild) return new int[] {5, 3, near(0, 3)};
      int[][] ranges = {{1, 500}, {0, 50}, {2, 40}, {0, 16}};
      int[] range = what >= 0 && what <= 3 ? ranges[what] : new int[] {0, 50};
      return new int[] {5, what, near(range[0], range[1])};
    }

    // Mostly within, often on the edges, sometimes just beyond them or far away.
    int near(int least, int most) {
      int pick = random.nextInt(40);
      if (pick == 0) return least - 1;
      if (pick == 1) return most + 1;
      if (pick == 2) return random.nextInt();
      if (pick < 6) return least;
      if (pick < 10) return most;
      return least + random.nextInt(most - least + 1);
    }

    int[] write() {
      StringBuilder text = new StringBuilder();
      int orders = 1 + random.nextInt(random.nextInt(5) == 0 ? 14 : 5);
      for (int n = 0; n < orders; n++) text.append(order());
      if (random.nextInt(4) == 0) text.setCharAt(random.nextInt(text.length()), "rsdnx0129,; q~".charAt(random.nextInt(14)));
      if (random.nextInt(6) == 0) text.setLength(random.nextInt(text.length()));
      for (int i = 0; i < text.length(); i++) waiting.add((int) text.charAt(i));
      return new int[] {17};
    }

    String order() {
      switch (random.nextInt(7)) {
        case 0: return "r" + digits(0, 1) + "," + digits(10, 999) + "," + digits(0, 99) + ";";
        case 1: return "d" + digits(1, random.nextInt(24) + 1) + ";";
        case 2: return "n;";
        case 3: return "x" + digits(1, 999) + ";";
        default: return "s" + digits(1, 300) + ";";
      }
    }

    String digits(int least, int most) {
      int value = random.nextInt(30) == 0 ? random.nextInt(1100) : least + random.nextInt(most - least + 1);
      return random.nextInt(5) == 0 ? String.format("%03d", value) : Integer.toString(value);
    }
  }

  // ---- the document once more

  static final class State {
    int[] period = {100, 137}, jitter = {7, 7}, phase = {0, 0}, settings = {37, 2, 12, 6};
    int noise = 1, mode = 0, test = 0;
    List<Integer> tested = new ArrayList<>();   // since it was started anew; 100 are enough for any run
    int testedInAll = 0;
    int run = 0;
    List<Integer> window = new ArrayList<>();
    List<Integer> pair = new ArrayList<>();
    List<Integer> store = new ArrayList<>();
    List<Integer> kept = new ArrayList<>();     // the latest one first
    int[] counts = new int[8];

    State copy() {
      State s = new State();
      s.period = period.clone();
      s.jitter = jitter.clone();
      s.phase = phase.clone();
      s.settings = settings.clone();
      s.noise = noise;
      s.mode = mode;
      s.test = test;
      s.tested = new ArrayList<>(tested);
      s.testedInAll = testedInAll;
      s.run = run;
      s.window = new ArrayList<>(window);
      s.pair = new ArrayList<>(pair);
      s.store = new ArrayList<>(store);
      s.kept = new ArrayList<>(kept);
      s.counts = counts.clone();
      return s;
    }

    int ask() {
      noise = (int) ((long) noise * 75L % 65537L);
      return noise;
    }

    boolean locked() {
      int apart = period[0] > period[1] ? period[0] - period[1] : period[1] - period[0];
      return !(apart > settings[1]);
    }

    boolean high(int ring) {
      return phase[ring] < Math.floorDiv(period[ring], 2);
    }

    void oneSample() {
      phase[0] = (phase[0] + settings[0] + ask() % (jitter[0] + 1)) % period[0];
      phase[1] = locked() ? phase[0] % period[1] : (phase[1] + settings[0] + ask() % (jitter[1] + 1)) % period[1];
      int bit = high(0) ^ high(1) ? 1 : 0;
      counts[0]++;
      if (bit == 1) counts[1]++;
      kept.add(0, bit);
      if (kept.size() == 65) kept.remove(64);
      if (mode != 2) oneTest(bit);
    }

    void oneTest(int bit) {
      testedInAll++;
      tested.add(bit);
      window.add(bit);
      if (tested.size() > 1 && tested.get(tested.size() - 2) != bit) run = 0;
      run++;
      if (tested.size() > 100) tested.remove(0);
      counts[7] = Math.max(counts[7], run);
      boolean bad = false;
      if (window.size() == 32) {
        int ones = sum(window);
        bad = ones < settings[3] || 32 - ones < settings[3];
        window.clear();
      }
      if (run > settings[2]) test = 1;
      else if (bad) test = 2;
      if (test != 0) {
        mode = 2;
        counts[6]++;
        pair.clear();
        return;
      }
      if (mode == 1) onePair(bit);
      if (testedInAll == 64) mode = 1;
    }

    void onePair(int bit) {
      pair.add(bit);
      if (pair.size() < 2) return;
      if (sum(pair) != 1) counts[2]++;
      else if (store.size() < 64) {
        store.add(pair.get(0));
        counts[3]++;
      } else counts[4]++;
      pair.clear();
    }

    static int sum(List<Integer> bits) {
      int ones = 0;
      for (int bit : bits) ones += bit;
      return ones;
    }

    int change(int[] c) {
      switch (c[0]) {
        case 0: {
          if (out(c[1], 0, 1) || out(c[2], 10, 999) || out(c[3], 0, 99)) return BAD;
          int before = period[c[1]];
          period[c[1]] = c[2];
          jitter[c[1]] = c[3];
          phase[c[1]] = 0;
          return before;
        }
        case 1: {
          if (out(c[1], 1, 65536)) return BAD;
          int before = noise;
          noise = c[1];
          return before;
        }
        case 2: {
          if (out(c[1], 1, 300)) return BAD;
          int before = store.size();
          for (int i = 0; i < c[1]; i++) oneSample();
          return store.size() - before;
        }
        case 3: {
          if (out(c[1], 1, 24)) return BAD;
          if (mode == 2 || store.size() < c[1]) return CANNOT;
          int value = 0;
          for (int i = 0; i < c[1]; i++) value = 2 * value + store.remove(0);
          counts[5] += c[1];
          return value;
        }
        case 4: {
          int before = store.size();
          mode = 0;
          test = 0;
          testedInAll = 0;
          run = 0;
          tested.clear();
          window.clear();
          pair.clear();
          store.clear();
          return before;
        }
        default: {
          int[] least = {1, 0, 2, 0}, most = {500, 50, 40, 16};
          if (out(c[1], 0, 3) || out(c[2], least[c[1]], most[c[1]])) return BAD;
          int before = settings[c[1]];
          settings[c[1]] = c[2];
          return before;
        }
      }
    }
  }

  static boolean out(int value, int least, int most) {
    return value < least || value > most;
  }

  static final class Model {
    static final Pattern ORDER = Pattern.compile("(?:r(\\d{1,3}),(\\d{1,3}),(\\d{1,3})|([sdx])(\\d{1,3})|n);");
    State now = new State();
    final Deque<State> history = new ArrayDeque<>();
    String text = "";

    int answer(int[] c) {
      switch (c[0]) {
        case 0: case 1: case 2: case 3: case 4: case 5: {
          State before = now.copy();
          return landed(before, now.change(c));
        }
        case 6:
          if (out(c[1], 0, 1) || out(c[2], 0, 3)) return BAD;
          return new int[] {now.period[c[1]], now.jitter[c[1]], now.phase[c[1]], now.high(c[1]) ? 1 : 0}[c[2]];
        case 7: return source(c[1]);
        case 8: return out(c[1], 0, 63) ? BAD : c[1] < now.kept.size() ? now.kept.get(c[1]) : NONE;
        case 9: return c[1] < 0 ? BAD : c[1] < now.store.size() ? now.store.get(c[1]) : NONE;
        case 10: return would(c[1], c[2]);
        case 11: return takes(c[1]);
        case 12: return bestPeriod(c[1]);
        case 13: return now.kept.isEmpty() ? NONE : Float.floatToRawIntBits((float) State.sum(now.kept) / (float) now.kept.size());
        case 14: return count(c[1]);
        case 15:
          if (history.isEmpty()) return CANNOT;
          now = history.removeLast();
          return history.size();
        case 16:
          if (out(c[1], 32, 126)) return BAD;
          if (text.length() == 60) return FULL;
          text += (char) c[1];
          return text.length();
        case 17: {
          int length = text.length();
          text = "";
          return length;
        }
        case 18: {
          if (out(c[1], 0, 2)) return BAD;
          int[] fault = follow(now.copy());
          return fault.length == 3 ? fault[c[1]] : NONE;
        }
        default: {
          State before = now.copy(), after = now.copy();
          int[] done = follow(after);
          if (done.length == 3) return CANNOT;
          now = after;
          return landed(before, done[0]);
        }
      }
    }

    int landed(State before, int answer) {
      if (answer < 0) return answer;
      history.addLast(before);
      if (history.size() == 5) history.removeFirst();
      return answer;
    }

    int source(int what) {
      switch (what) {
        case 0: return now.mode;
        case 1: return now.mode == 2 ? now.test : NONE;
        case 2: return now.mode == 0 ? 64 - now.testedInAll : NONE;
        case 3: return now.run;
        case 4: return now.window.size();
        case 5: return State.sum(now.window);
        case 6: return now.store.size();
        case 7: return now.pair.isEmpty() ? NONE : now.pair.get(0);
        case 8: return now.locked() ? 1 : 0;
        case 9: return now.noise;
        default: return BAD;
      }
    }

    int would(int many, int what) {
      if (out(many, 0, 300) || out(what, 0, 2)) return BAD;
      State then = now.copy();
      for (int i = 0; i < many; i++) then.oneSample();
      return what == 0 ? then.store.size() : what == 1 ? then.mode : then.counts[4] - now.counts[4];
    }

    int takes(int bits) {
      if (out(bits, 1, 64)) return BAD;
      State then = now.copy();
      int made = 0;
      while (then.store.size() < bits) {
        if (made == 2000) return NONE;
        then.oneSample();
        made++;
      }
      return made;
    }

    int bestPeriod(int what) {
      if (out(what, 0, 1)) return BAD;
      int best = 400, most = -1;
      for (int period = 400; period >= 20; period -= 20) {
        State then = now.copy();
        then.change(new int[] {0, 1, period, now.jitter[1]});
        for (int i = 0; i < 200; i++) then.oneSample();
        if (then.store.size() >= most) {
          best = period;
          most = then.store.size();
        }
      }
      return what == 0 ? best : most;
    }

    int count(int what) {
      if (!out(what, 0, 7)) return now.counts[what];
      if (what == 8) return history.size();
      if (what == 9) return text.length();
      return out(what, 20, 23) ? BAD : now.settings[what - 20];
    }

    // The fault's three numbers, or how many orders there are.
    int[] follow(State state) {
      String rest = text;
      int done = 0;
      while (!rest.isEmpty()) {
        Matcher order = ORDER.matcher(rest);
        int place = text.length() - rest.length();
        if (!order.lookingAt()) return new int[] {place, 1, breaksOff(rest)};
        int answer = state.change(call(order));
        if (answer < 0) return new int[] {place, 2, answer};
        rest = rest.substring(order.end());
        done++;
      }
      return new int[] {done};
    }

    // How many characters can still be the beginning of an order.
    static int breaksOff(String rest) {
      int fit = 0;
      while (fit < rest.length()) {
        Matcher begun = ORDER.matcher(rest.substring(0, fit + 1));
        if (!begun.matches() && !begun.hitEnd()) return fit;
        fit++;
      }
      return fit;
    }

    static int[] call(Matcher order) {
      if (order.group(1) != null) {
        return new int[] {0, Integer.parseInt(order.group(1)), Integer.parseInt(order.group(2)), Integer.parseInt(order.group(3))};
      }
      if (order.group(4) == null) return new int[] {4};
      int kind = order.group(4).equals("s") ? 2 : order.group(4).equals("d") ? 3 : 1;
      return new int[] {kind, Integer.parseInt(order.group(5))};
    }
  }
}
