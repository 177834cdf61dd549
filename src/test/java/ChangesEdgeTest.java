import java.util.ArrayList;
import java.util.Arrays;
import java.util.List;

// For each sentence under "What it is" and "Changes and errors" that names a boundary case: the 512th call, the empty and
// the full history, several errors at once, and that each refused call, in each state, leaves all as it was.
public final class ChangesEdgeTest extends Checks {
  public static void main(String[] args) {
    callsUpTo512();
    constants();
    changesAreRecorded();
    otherCallsAreNoChanges();
    historyHasFourAtMost();
    oldestIsDropped();
    changeThatChangesNothing();
    allButTheTextIsRecorded();
    wrongArgumentComesFirst();
    errorsChangeNothing();
    refusedPlayChangesNothing();
    tellingLeavesNoTrace();
    everyCallReturns();
    finish();
  }

  // ---- states, each made anew by its number

  static final int STATES = 9;

  static JudgedBits state(int number) {
    JudgedBits x;
    switch (number) {
      case 0: return new JudgedBits();
      case 1:                                   // in the start up, one short of its end; the text cut short
        x = new JudgedBits();
        x.sample(63);
        write(x, "s");
        return x;
      case 2:                                   // running, with an empty store and a wrong order
        x = running();
        write(x, "s1;d24;");
        return x;
      case 3:                                   // running, a pair waits, two in the store
        x = running();
        feed(x, "1001" + "1");
        write(x, "r1,20,7;s9;d1;n;x8;");
        return x;
      case 4:                                   // the store is full, bits are lost, a full history
        x = withFullStore();
        x.sample(101);
        write(x, times(12, "s300;"));
        return x;
      case 5:                                   // one short of a full window and a full text
        x = running();
        x.sample(31);
        write(x, times(29, "n;") + "q");
        return x;
      case 6:
        x = inAlarmWithTwo();
        write(x, "d1;");
        return x;
      case 7:                                   // alarm by the share test
        x = new JudgedBits();
        x.set(3, 16);
        x.set(2, 40);
        x.sample(64);
        return x;
      default:                                  // a history of which some has been undone
        x = withFullStore();
        x.draw(9);
        x.sample(7);
        x.undo();
        x.undo();
        write(x, "s0;");
        return x;
    }
  }

  /** All that can be told by a state, what would come out of it, and each state in its history; it is used up by that. */
  static List<Integer> everything(JudgedBits x) {
    List<Integer> seen = picture(x, 64);
    for (int what = 0; what < 3; what++) seen.add(x.fault(what));
    for (int what = 0; what < 3; what++) seen.add(x.would(300, what));
    for (int what = 0; what < 2; what++) seen.add(x.bestPeriod(what));
    seen.add(x.takes(64));
    seen.add(x.count(9));
    int states = x.count(8);
    for (int n = 0; n < 5; n++) {
      seen.add(x.count(8));
      seen.add(x.undo());
      seen.addAll(picture(x, n < states ? 6 : 0));
    }
    seen.add(x.play());
    seen.add(x.count(0));
    seen.add(x.clearText());
    return seen;
  }

  static final int UNKNOWN = 1;

  // The answer if it is known, and if it is an error or tells something only, that all is as in the same state without it.
  static void changesNothing(int number, int want, String name, int... with) {
    JudgedBits x = state(number);
    int answer = call(x, name, with);
    String told = told(name, with) + " in the state " + number;
    if (want != UNKNOWN) due(told, answer, want);
    due(told + " changes nothing", everything(x).equals(everything(state(number))) ? 1 : 0, 1);
  }

  // ---- the 512th call

  static void callsUpTo512() {
    sentence("What it is", "An object is used for at most 512 calls after it has been made; what later calls answer is free.");
    JudgedBits x = alternating();
    for (int n = 4; n <= 511; n++) x.sample(300);
    due("samples told by the 512th call", x.count(0), 508 * 300);
    x = alternating();
    for (int n = 4; n <= 511; n++) x.sample(300);
    due("draw(24) as the 512th call", x.draw(24), 16777215);
    x = alternating();
    for (int n = 4; n <= 511; n++) x.sample(300);
    due("undo() as the 512th call", x.undo(), 3);
    x = new JudgedBits();
    for (int n = 1; n <= 511; n++) x.type('n');
    due("clearText() as the 512th call", x.clearText(), 60);
    x = with60();
    for (int n = 61; n <= 511; n++) x.play();
    due("play() as the 512th call", x.play(), 12);
    x = new JudgedBits();
    for (int n = 1; n <= 511; n++) x.noise(n);
    due("noise() as the 512th call", x.noise(65536), 511);
  }

  static JudgedBits with60() {
    JudgedBits x = new JudgedBits();
    for (char c : times(12, "s300;").toCharArray()) x.type(c);
    return x;
  }

  static void constants() {
    sentence("Changes and errors", "The constants: `INVALID_ARGUMENT = -1000001`: An argument is out of its range.");
    due("INVALID_ARGUMENT", JudgedBits.INVALID_ARGUMENT, -1000001);
    due(new JudgedBits(), JudgedBits.INVALID_ARGUMENT, "sample", 0);
    sentence("Changes and errors", "`NOT_POSSIBLE = -1000002`: The call is not possible in the present state.");
    due("NOT_POSSIBLE", JudgedBits.NOT_POSSIBLE, -1000002);
    due(new JudgedBits(), JudgedBits.NOT_POSSIBLE, "undo");
    sentence("Changes and errors", "`LIMIT_REACHED = -1000003`: There is no more room.");
    due("LIMIT_REACHED", JudgedBits.LIMIT_REACHED, -1000003);
    due(with60(), JudgedBits.LIMIT_REACHED, "type", 'n');
    sentence("Changes and errors", "`NOT_FOUND = -1000004`: There is no such value.");
    due("NOT_FOUND", JudgedBits.NOT_FOUND, -1000004);
    due(new JudgedBits(), JudgedBits.NOT_FOUND, "raw", 0);
  }

  // ---- changes

  static final String[] CHANGES = {"ring", "noise", "sample", "draw", "restart", "set", "play"};
  static final int[][] TAKEN = {{1, 50, 3}, {999}, {5}, {2}, {}, {1, 9}, {}};
  static final int[][] REFUSED = {{2, 50, 3}, {0}, {301}, {25}, {}, {1, 51}, {}};

  // Two in the store, one state in the history, a text that can be played.
  static JudgedBits ready() {
    JudgedBits x = running();
    feed(x, "1001" + "1");
    write(x, "x2;s1;");
    for (int n = 0; n < 3; n++) x.undo();
    return x;
  }

  static void changesAreRecorded() {
    sentence("Changes and errors", "The changes are the calls of ring, noise, sample, draw, restart, set and play that return no error.");
    for (int n = 0; n < CHANGES.length; n++) {
      JudgedBits x = ready();
      due("states before " + CHANGES[n], x.count(8), 1);
      due(CHANGES[n] + " returns no error", call(x, CHANGES[n], TAKEN[n]) >= 0 ? 1 : 0, 1);
      due("states behind " + CHANGES[n], x.count(8), 2);
      if (REFUSED[n].length > 0) due(x, BAD, CHANGES[n], REFUSED[n]);
      due("states behind a refused " + CHANGES[n], x.count(8), 2);
    }
    JudgedBits x = ready();
    due(x, CANNOT, "draw", 24);
    write(x, "q");
    due(x, CANNOT, "play");
    due("states behind a draw and a play that are not possible", x.count(8), 1);
  }

  static void otherCallsAreNoChanges() {
    sentence("Changes and errors", "The changes are the calls of ring, noise, sample, draw, restart, set and play that return no error.");
    JudgedBits x = ready();
    x.type('n');
    x.type(';');
    for (int w = 0; w < 4; w++) x.ringOf(0, w);
    for (int w = 0; w < 10; w++) x.source(w);
    x.raw(0);
    x.stored(0);
    for (int w = 0; w < 3; w++) x.would(300, w);
    x.takes(64);
    x.bestPeriod(0);
    x.share();
    for (int w = 0; w < 3; w++) x.fault(w);
    x.clearText();
    due("states behind calls that only tell, and of the text", x.count(8), 1);
    due("undo() takes one away", x.undo(), 0);
    due("states behind undo()", x.count(8), 0);
  }

  static final String HISTORY = "A history of at most 4 states is kept: each change records everything before it but the text, and if there are 5 states "
      + "then, the oldest one is dropped.";

  static void historyHasFourAtMost() {
    sentence("Changes and errors", HISTORY);
    for (int change = 0; change < CHANGES.length; change++) {
      JudgedBits x = withFullStore();
      due("states", x.count(8), 4);
      call(x, CHANGES[change], TAKEN[change]);
      due("states behind the fifth or sixth change, " + CHANGES[change], x.count(8), 4);
    }
    JudgedBits x = new JudgedBits();
    due("states of a new object", x.count(8), 0);
    due(x, CANNOT, "undo");
    for (int n = 1; n <= 7; n++) {
      x.noise(10 * n);
      due("states behind " + n + " changes", x.count(8), Math.min(n, 4));
    }
  }

  static void oldestIsDropped() {
    sentence("Changes and errors", HISTORY);
    for (int changes = 3; changes <= 6; changes++) {
      JudgedBits x = new JudgedBits();
      for (int n = 1; n <= changes; n++) x.noise(10 * n);
      int kept = Math.min(changes, 4);
      for (int n = 1; n <= kept; n++) {
        due(x, kept - n, "undo");
        due("the noise behind " + n + " of " + changes, x.source(9), changes == n ? 1 : 10 * (changes - n));
      }
      due(x, CANNOT, "undo");
      due("the noise stays", x.source(9), changes <= 4 ? 1 : 10 * (changes - 4));
    }
    JudgedBits x = new JudgedBits();
    for (int n = 1; n <= 5; n++) x.noise(10 * n);
    x.undo();
    x.undo();
    x.noise(7);
    due("states behind two undo() and a change", x.count(8), 3);
    x.noise(8);
    due("states behind one more", x.count(8), 4);
    x.noise(9);
    int[] back = {8, 7, 30, 20};
    for (int n = 0; n < 4; n++) {
      x.undo();
      due(x, back[n], "source", 9);
    }
    due(x, CANNOT, "undo");
  }

  static void changeThatChangesNothing() {
    sentence("Changes and errors", HISTORY);
    String[] names = {"ring", "noise", "restart", "set", "play"};
    int[][] with = {{0, 100, 7}, {1}, {}, {0, 37}, {}};
    for (int n = 0; n < names.length; n++) {
      JudgedBits x = new JudgedBits();
      call(x, names[n], with[n]);
      due("states behind " + told(names[n], with[n]) + " that leaves all as it was", x.count(8), 1);
      due(x, 0, "undo");
      due(x, CANNOT, "undo");
    }
  }

  static void allButTheTextIsRecorded() {
    sentence("Changes and errors", HISTORY);
    for (int number = 0; number < STATES; number++) {
      for (int change = 0; change < CHANGES.length; change++) {
        JudgedBits x = state(number);
        List<Integer> before = picture(x, 64);
        x.type('n');
        if (call(x, CHANGES[change], TAKEN[change]) < 0) continue;
        x.clearText();
        x.type('q');
        String told = CHANGES[change] + " in the state " + number;
        due("undo() of " + told + " is possible", x.undo() >= 0 ? 1 : 0, 1);
        due("undo() of " + told + " brings all back", picture(x, 64).equals(before) ? 1 : 0, 1);
        due("the text stays behind undo() of " + told, x.count(9), 1);
      }
    }
  }

  // ---- errors

  static void wrongArgumentComesFirst() {
    sentence("Changes and errors", "If several errors apply to a call, INVALID_ARGUMENT is returned rather than NOT_POSSIBLE, and NOT_POSSIBLE rather than "
        + "NOT_FOUND.");
    JudgedBits[] noBits = {new JudgedBits(), running(), inAlarm(), inAlarmWithTwo()};
    for (JudgedBits x : noBits) {
      for (int many : new int[] {LOW, -1, 0, 25, HIGH}) due(x, BAD, "draw", many);
      for (int many : new int[] {1, 24}) due(x, CANNOT, "draw", many);
    }
    JudgedBits x = new JudgedBits();
    for (int index : new int[] {LOW, -1, 64, HIGH}) due(x, BAD, "raw", index);
    for (int index : new int[] {LOW, -1}) due(x, BAD, "stored", index);
    for (int what : new int[] {LOW, -1, 3, HIGH}) due(x, BAD, "fault", what);
    for (int what : new int[] {LOW, -1, 10, HIGH}) due(x, BAD, "source", what);
    x = inAlarm();
    for (int bits : new int[] {LOW, -1, 0, 65, HIGH}) due(x, BAD, "takes", bits);
    due(x, NONE, "takes", 1);
    x = new JudgedBits();
    write(x, "d25;");
    due("the cause of an order with both errors", x.fault(2), BAD);
    // the document does not rank LIMIT_REACHED: a wrong argument is told first here too
    due(with60(), BAD, "type", 127);
  }

  // Of each call the arguments that are refused in each state, the ones just beyond a range and several at once.
  static List<int[]> wrongArguments(String name) {
    switch (name) {
      case "ring": return all(new int[][] {{-1, 0, 1, 2}, {9, 10, 999, 1000}, {-1, 0, 99, 100}}, new int[][] {{0, 1}, {10, 999}, {0, 99}});
      case "noise": return all(new int[][] {{LOW, -1, 0, 65537, HIGH}}, new int[][] {{1, 65536}});
      case "sample": return all(new int[][] {{LOW, -1, 0, 301, HIGH}}, new int[][] {{1, 300}});
      case "draw": return all(new int[][] {{LOW, -1, 0, 25, HIGH}}, new int[][] {{1, 24}});
      case "set": return wrongSettings();
      case "ringOf": return all(new int[][] {{LOW, -1, 0, 1, 2, HIGH}, {LOW, -1, 0, 3, 4, HIGH}}, new int[][] {{0, 1}, {0, 3}});
      case "source": return all(new int[][] {{LOW, -1, 10, HIGH}}, new int[][] {{0, 9}});
      case "raw": return all(new int[][] {{LOW, -1, 64, HIGH}}, new int[][] {{0, 63}});
      case "stored": return all(new int[][] {{LOW, -1}}, new int[][] {{0, HIGH}});
      case "would": return all(new int[][] {{LOW, -1, 0, 300, 301, HIGH}, {LOW, -1, 0, 2, 3, HIGH}}, new int[][] {{0, 300}, {0, 2}});
      case "takes": return all(new int[][] {{LOW, 0, 65, HIGH}}, new int[][] {{1, 64}});
      case "bestPeriod": return all(new int[][] {{LOW, -1, 2, HIGH}}, new int[][] {{0, 1}});
      case "count": return all(new int[][] {{LOW, -1, 10, 19, 24, HIGH}}, new int[][] {{HIGH, LOW}});
      case "type": return all(new int[][] {{LOW, 31, 127, HIGH}}, new int[][] {{32, 126}});
      default: return all(new int[][] {{LOW, -1, 3, HIGH}}, new int[][] {{0, 2}});
    }
  }

  static List<int[]> wrongSettings() {
    List<int[]> wrong = new ArrayList<>();
    int[][] rows = {{0, 0}, {0, 501}, {1, -1}, {1, 51}, {2, 1}, {2, 41}, {3, -1}, {3, 17}, {-1, 2}, {4, 2}, {-1, -1}, {4, 501}, {LOW, LOW}, {HIGH, HIGH}};
    for (int[] row : rows) wrong.add(row);
    return wrong;
  }

  // All combinations but those that are within all ranges.
  static List<int[]> all(int[][] values, int[][] ranges) {
    List<int[]> rows = new ArrayList<>();
    rows.add(new int[0]);
    for (int[] next : values) {
      List<int[]> longer = new ArrayList<>();
      for (int[] row : rows) {
        for (int value : next) {
          int[] one = Arrays.copyOf(row, row.length + 1);
          one[row.length] = value;
          longer.add(one);
        }
      }
      rows = longer;
    }
    rows.removeIf(row -> isWithin(row, ranges));
    return rows;
  }

  static boolean isWithin(int[] row, int[][] ranges) {
    for (int i = 0; i < row.length; i++) {
      if (row[i] < ranges[i][0] || row[i] > ranges[i][1]) return false;
    }
    return true;
  }

  static void statesAreAsTold() {
    int[] modes = {0, 0, 1, 1, 1, 1, 2, 2, 1}, stores = {0, 0, 0, 2, 64, 15, 2, 0, 64}, texts = {0, 1, 7, 19, 60, 59, 3, 0, 3};
    int[] histories = {0, 1, 4, 4, 4, 4, 4, 3, 2};
    for (int number = 0; number < STATES; number++) {
      String of = " of the state " + number;
      due("source(0)" + of, state(number).source(0), modes[number]);
      due("the store" + of, state(number).source(6), stores[number]);
      due("the text" + of, state(number).count(9), texts[number]);
      due("the history" + of, state(number).count(8), histories[number]);
    }
    due("a bit waits", state(3).source(7), 1);
    due("bits are lost", state(4).count(4), 50);
    due("the window", state(5).source(4), 31);
    due("the run test", state(6).source(1), 1);
    due("the share test", state(7).source(1), 2);
  }

  static void errorsChangeNothing() {
    sentence("Changes and errors", "A call that returns an error changes nothing.");
    statesAreAsTold();
    String[] names = {"ring", "noise", "sample", "draw", "set", "ringOf", "source", "raw", "stored", "would", "takes", "bestPeriod", "count", "type", "fault"};
    for (int number = 0; number < STATES; number++) {
      for (String name : names) {
        for (int[] with : wrongArguments(name)) changesNothing(number, BAD, name, with);
      }
      // calls that tell only, whether there is something to be told or not
      for (int what = 0; what < 10; what++) changesNothing(number, UNKNOWN, "source", what);
      for (int what = 0; what < 3; what++) changesNothing(number, UNKNOWN, "fault", what);
      for (int what = 0; what < 3; what++) changesNothing(number, UNKNOWN, "would", 300, what);
      for (int what = 0; what < 2; what++) changesNothing(number, UNKNOWN, "bestPeriod", what);
      changesNothing(number, UNKNOWN, "raw", 63);
      changesNothing(number, UNKNOWN, "stored", 63);
      changesNothing(number, UNKNOWN, "takes", 64);
      changesNothing(number, UNKNOWN, "share");
    }
    for (int number : new int[] {0, 1, 2, 6, 7}) {
      for (int many : new int[] {1, 24}) changesNothing(number, CANNOT, "draw", many);
    }
    changesNothing(3, CANNOT, "draw", 3);
    changesNothing(0, CANNOT, "undo");
    changesNothing(0, NONE, "share");
    for (int index : new int[] {0, HIGH}) changesNothing(0, NONE, "stored", index);
    for (int number : new int[] {6, 7}) changesNothing(number, NONE, "takes", 64);
    for (int character : new int[] {32, 'n', 126}) changesNothing(4, FULL, "type", character);
  }

  static void refusedPlayChangesNothing() {
    sentence("Changes and errors", "A call that returns an error changes nothing.");
    for (int number : new int[] {1, 2, 5, 6, 8}) changesNothing(number, CANNOT, "play");
    JudgedBits x = new JudgedBits();
    write(x, "r0,20,0;r1,40,0;s64;s9;x7;n;d1;");
    List<Integer> before = picture(x, 64);
    due(x, CANNOT, "play");
    due("nothing is done of the orders ahead", picture(x, 64).equals(before) ? 1 : 0, 1);
    due("no state", x.count(8), 0);
    x = new JudgedBits();
    for (int n = 0; n < 5; n++) x.noise(n + 1);
    write(x, "q");
    for (int n = 0; n < 5; n++) due(x, CANNOT, "play");
    for (int left = 3; left >= 0; left--) {
      due("the history as before the refused calls", x.undo(), left);
      due("its noise", x.source(9), left + 1);
    }
  }

  // What is told by trying leaves nothing behind that a later call could meet.
  static void tellingLeavesNoTrace() {
    sentence("Not promised", "Nothing is promised beyond the answers and state changes described above");
    String[] telling = {"would", "takes", "bestPeriod", "fault", "play"};
    int[][] with = {{300, 0}, {64}, {1}, {0}, {}};
    for (int number = 0; number < STATES; number++) {
      for (int n = 0; n < telling.length; n++) {
        if (telling[n].equals("play") && state(number).fault(0) == NONE) continue;
        for (int change = 0; change < CHANGES.length; change++) {
          leavesNoTrace(number, telling[n], with[n], CHANGES[change], TAKEN[change]);
        }
        leavesNoTrace(number, telling[n], with[n], "undo");
        leavesNoTrace(number, telling[n], with[n], "would", 1, 0);
        leavesNoTrace(number, telling[n], with[n], "takes", 64);
      }
    }
  }

  static void leavesNoTrace(int number, String telling, int[] with, String name, int... then) {
    JudgedBits x = state(number), y = state(number);
    call(x, telling, with);
    String told = told(name, then) + " behind " + told(telling, with) + " in the state " + number;
    due(told, call(x, name, then), call(y, name, then));
    due(told + " leads to the same state", picture(x, 64).equals(picture(y, 64)) ? 1 : 0, 1);
  }

  // ---- no call throws

  static final String[] CALLS = {"ring", "noise", "sample", "draw", "restart", "set", "ringOf", "source", "raw", "stored", "would", "takes", "bestPeriod",
      "share", "count", "undo", "type", "clearText", "fault", "play"};
  static final int[] ARGUMENTS = {3, 1, 1, 1, 0, 2, 2, 1, 1, 1, 2, 1, 1, 0, 1, 0, 1, 0, 1, 0};
  static final int[] VALUES = {LOW, LOW + 1, -65537, -65, -1, 0, 1, 2, 10, 23, 60, 64, 300, 999, 65536, 1 << 30, HIGH - 1, HIGH};

  static void everyCallReturns() {
    rule(7);
    for (int number = 0; number < STATES; number++) {
      for (int n = 0; n < CALLS.length; n++) {
        int[][] values = new int[ARGUMENTS[n]][];
        Arrays.fill(values, VALUES);
        int[][] none = new int[ARGUMENTS[n]][];
        Arrays.fill(none, new int[] {HIGH, LOW});
        List<int[]> rows = ARGUMENTS[n] == 0 ? List.of(new int[0]) : all(values, none);
        JudgedBits x = state(number);
        for (int row = 0; row < rows.size(); row++) {
          if (row % 400 == 0) x = state(number);
          returns(x, number, CALLS[n], rows.get(row));
        }
      }
    }
  }

  static void returns(JudgedBits x, int number, String name, int... with) {
    int answer = NONE - 1;
    try {
      answer = call(x, name, with);
    } catch (RuntimeException e) {
      fault(told(name, with) + " in the state " + number + " threw " + e);
    }
    due(told(name, with) + " in the state " + number + " answers a number or an error", answer >= 0 || answer >= NONE && answer <= BAD ? 1 : 0, 1);
  }
}
