import java.util.List;

// For each sentence under "Texts" and of the promises 18 to 21 that names a boundary case: the empty and the full text,
// numbers of no, one, three and four digits, each place at which an order can break off, each error an order can have.
public final class TextsEdgeTest extends Checks {
  public static void main(String[] args) {
    textHas60AtMost();
    fullTextOfOrders();
    fiveOrders();
    numbersHaveOneToThreeDigits();
    noiseInATextHasARange();
    faultIsTheFirstOne();
    reasonOfTheForm();
    reasonOfTheCall();
    ordersAheadAreDone();
    breaksOffAtEachPlace();
    endsTooEarlyAtEachPlace();
    errorCodeIsTheCause();
    type();
    clearText();
    fault();
    play();
    playIsOneChange();
    playWithAFault();
    finish();
  }

  // ---- objects and what is due of a text

  static JudgedBits with(JudgedBits x, String text) {
    write(x, text);
    return x;
  }

  static void faultIs(JudgedBits x, String text, int place, int reason, int cause) {
    write(x, text);
    due("the position in " + text, x.fault(0), place);
    due("the reason in " + text, x.fault(1), reason);
    due("the cause in " + text, x.fault(2), cause);
    due("play() of " + text, x.play(), CANNOT);
  }

  static void faultless(JudgedBits x, String text, int orders) {
    write(x, text);
    for (int what = 0; what < 3; what++) due("fault(" + what + ") of " + text, x.fault(what), NONE);
    due("play() of " + text, x.play(), orders);
  }

  // ---- under "Texts"

  static final String TEXT = "There is a text of at most 60 characters, initially empty";

  static void textHas60AtMost() {
    sentence("Texts", TEXT);
    JudgedBits x = new JudgedBits();
    due(x, 0, "count", 9);
    due(x, 0, "clearText");
    for (int n = 1; n <= 60; n++) due(x, n, "type", 'n');
    due(x, FULL, "type", 'n');
    due(x, 60, "count", 9);
    due(x, FULL, "type", ';');
    due(x, 60, "count", 9);
    due(x, 60, "clearText");
    due(x, 1, "type", 'n');
  }

  static void fullTextOfOrders() {
    sentence("Texts", TEXT);
    JudgedBits x = new JudgedBits();
    faultless(x, times(30, "n;"), 30);
    due(x, FULL, "type", 'n');
    due(x, 30, "play");
    faultless(x, times(29, "n;"), 29);
    faultless(x, times(12, "s300;"), 12);
    faultless(x, times(6, "r0,10,00;") + "x001;", 7);      // 59
    faultless(x, times(6, "r0,10,00;") + "x01;n;", 8);     // 60
    faultIs(x, times(6, "r0,10,00;") + "x001;n", 59, 1, 1);
  }

  static void fiveOrders() {
    sentence("Texts", "orders, each followed by \";\": \"r\" a ring, \",\", a period, \",\", a jitter (set), \"s\" samples (made), \"d\" bits (drawn), \"n\" (started "
        + "anew) or \"x\" a noise (set, 1 to 999); numbers of 1 to 3 digits, 0 ahead allowed.");
    JudgedBits x = new JudgedBits();
    faultless(x, "r1,999,99;", 1);
    due(x, 999, "ringOf", 1, 0);
    due(x, 99, "ringOf", 1, 1);
    due(x, 100, "ringOf", 0, 0);
    faultless(x, "r0,10,0;", 1);
    due(x, 10, "ringOf", 0, 0);
    due(x, 0, "ringOf", 0, 1);
    faultless(x, "s300;", 1);
    due(x, 300, "count", 0);
    faultless(x, "x999;", 1);
    due(x, 999, "source", 9);
    x = withFullStore();
    faultless(x, "d24;", 1);
    due(x, 24, "count", 5);
    faultless(x, "n;", 1);
    due(x, 64, "source", 2);
    for (int c = 32; c <= 126; c++) {
      if ("rsdnx".indexOf(c) < 0) faultIs(new JudgedBits(), (char) c + "1;", 0, 1, 0);
    }
  }

  // ---- numbers

  static void numbersHaveOneToThreeDigits() {
    sentence("Texts", "numbers of 1 to 3 digits, 0 ahead allowed.");
    JudgedBits x = new JudgedBits();
    for (String order : new String[] {"s", "d", "x"}) {
      faultIs(x, order + ";", 0, 1, 1);
      faultIs(x, order + "0001;", 0, 1, 4);
      faultIs(x, order + "1000;", 0, 1, 4);
    }
    faultIs(x, "r,10,0;", 0, 1, 1);
    faultIs(x, "r0000,10,0;", 0, 1, 4);
    faultIs(x, "r0,,0;", 0, 1, 3);
    faultIs(x, "r0,0010,0;", 0, 1, 6);
    faultIs(x, "r0,10,;", 0, 1, 6);
    faultIs(x, "r0,10,0000;", 0, 1, 9);
    due("no samples by them", x.count(0), 0);
    faultless(x, "s1;s01;s001;", 3);
    due("samples of 1, 01 and 001", x.count(0), 3);
    faultless(x, "s99;s099;s100;", 3);
    due("samples of 99, 099 and 100", x.count(0), 301);
    faultless(x, "x5;x05;x005;", 3);
    due("the noise of 005", x.source(9), 5);
    faultless(x, "r1,10,9;", 1);
    faultless(x, "r01,010,09;", 1);
    faultless(x, "r001,010,009;", 1);
    due("the period of 010", x.ringOf(1, 0), 10);
    due("the jitter of 009", x.ringOf(1, 1), 9);
    x = withFullStore();
    faultless(x, "d1;d01;d001;d024;", 4);
    due("drawn by 1, 01, 001 and 024", x.count(5), 27);
  }

  static void noiseInATextHasARange() {
    sentence("Texts", "\"x\" a noise (set, 1 to 999)");
    JudgedBits x = new JudgedBits();
    faultIs(x, "x0;", 0, 2, BAD);
    faultIs(x, "x000;", 0, 2, BAD);
    due("the noise stays", x.source(9), 1);
    faultless(x, "x999;", 1);
    due("the most", x.source(9), 999);
    faultless(x, "x1;", 1);
    due("the least", x.source(9), 1);
    faultIs(x, "x1000;", 0, 1, 4);
    faultIs(x, "x65536;", 0, 1, 4);
  }

  // ---- the fault

  static void faultIsTheFirstOne() {
    sentence("Texts", "The fault of the text is the position, from 0, of the first character of the first order that is not possible");
    JudgedBits x = new JudgedBits();
    faultIs(x, "q", 0, 1, 0);
    faultIs(x, "s0;", 0, 2, BAD);
    faultIs(x, "n;q", 2, 1, 0);
    faultIs(x, "s1;s0;q", 3, 2, BAD);
    faultIs(x, "s1;q;s0;", 3, 1, 0);
    faultIs(x, "n;d1;d2;", 2, 2, CANNOT);
    faultIs(x, times(29, "n;") + "n", 58, 1, 1);
    faultIs(x, times(29, "n;") + "s1", 58, 1, 2);
    faultIs(x, times(29, "n;") + "s;", 58, 1, 1);
    faultIs(x, times(29, "n;") + "s1;", 58, 1, 2);    // its ";" has no room
    faultIs(x, times(28, "n;") + "s1;q", 59, 1, 0);
    faultIs(x, times(28, "n;") + "x00;", 56, 2, BAD);
  }

  static final String REASON = "its reason is 1 if it is not of this form, its \";\" included, and otherwise 2, when those ahead of it are done";

  static void reasonOfTheForm() {
    sentence("Texts", REASON);
    JudgedBits x = new JudgedBits();
    for (String text : new String[] {"n", "s0", "s999", "d1", "x0", "r9,1,1", "r9,999,999"}) {
      faultIs(x, text, 0, 1, text.length());
      faultIs(x, text + "n;", 0, 1, text.length());
    }
    faultIs(x, "s301,", 0, 1, 4);
    faultIs(x, "d25 ;", 0, 1, 3);
  }

  static void reasonOfTheCall() {
    sentence("Texts", REASON);
    String[] wrong = {"s0;", "s301;", "s999;", "d0;", "d25;", "d999;", "x0;", "r2,10,0;", "r999,10,0;", "r0,9,0;", "r1,0,0;", "r0,10,100;", "r1,999,999;",
        "r2,9,100;"};
    String[] right = {"s1;", "s300;", "x1;", "x999;", "r0,10,0;", "r1,10,0;", "r0,999,0;", "r1,10,99;", "n;"};
    for (String text : wrong) faultIs(new JudgedBits(), text, 0, 2, BAD);
    for (String text : right) faultless(new JudgedBits(), text, 1);
  }

  static void ordersAheadAreDone() {
    sentence("Texts", REASON);
    JudgedBits x = alternating();
    faultIs(x, "d1;", 0, 2, CANNOT);
    faultIs(x, "s65;d1;", 4, 2, CANNOT);
    for (int what = 0; what < 3; what++) due(with(alternating(), "s66;d1;"), NONE, "fault", what);
    faultIs(x, "s66;d1;d1;", 7, 2, CANNOT);
    faultIs(x, "s66;d2;", 4, 2, CANNOT);
    faultIs(x, "s66;n;d1;", 6, 2, CANNOT);
    faultIs(x, "s111;d24;", 5, 2, CANNOT);            // 47 behind the start up: 23 bits
    for (int what = 0; what < 3; what++) due(with(alternating(), "s112;d24;"), NONE, "fault", what);
    faultIs(x, "s300;d24;d24;d24;", 13, 2, CANNOT);   // 64 bits at most
    for (int what = 0; what < 3; what++) due(with(alternating(), "s300;d24;d24;d16;"), NONE, "fault", what);
    faultIs(x, "s66;r1,20,0;s13;d1;", 16, 2, CANNOT); // in alarm with the 13th
    due("nothing was done for them", x.count(0), 0);
    due("nor recorded", x.count(8), 3);
    write(x, "d1;");
    due("the fault before samples", x.fault(0), 0);
    x.sample(66);
    due("no fault of the same text behind them", x.fault(0), NONE);
    x.undo();
    due("the fault again behind undo()", x.fault(0), 0);
  }

  // ---- the cause

  static final String CAUSE = "its cause is with the reason 1 at which character of the order, from 0, it breaks off (of one that the text ends too early it "
      + "is its length), and with the reason 2 the error code that the call returns for it.";
  static final String[] ORDERS = {"n;", "s1;", "s64;", "s300;", "d0;", "d24;", "x7;", "x999;", "r0,10,0;", "r1,999,99;", "r01,050,007;", "r001,020,000;"};

  // Neither a digit nor "," nor ";": the characters just beside the digits, and others.
  static final char[] STRANGE = {' ', '/', ':', '~', 'n', '-'};

  static void breaksOffAtEachPlace() {
    sentence("Texts", CAUSE);
    for (String order : ORDERS) {
      JudgedBits x = new JudgedBits();
      for (int at = 1; at < order.length(); at++) {
        String broken = order.substring(0, at) + STRANGE[at % STRANGE.length] + order.substring(at + 1);
        faultIs(x, broken, 0, 1, at);
        if (at % 4 == 0) faultIs(x, "x1;n;" + broken + "q", 5, 1, at);
      }
      faultIs(x, "~" + order.substring(1), 0, 1, 0);
      for (char strange : STRANGE) faultIs(new JudgedBits(), order.substring(0, 1) + strange + order.substring(1), 0, 1, 1);
    }
    JudgedBits x = new JudgedBits();
    faultIs(x, "n1;", 0, 1, 1);
    faultIs(x, "n,", 0, 1, 1);
    faultIs(x, "s1,", 0, 1, 2);
    faultIs(x, "r0;10,0;", 0, 1, 2);
    faultIs(x, "r0,10;0;", 0, 1, 5);
    faultIs(x, "r0,10,0,", 0, 1, 7);
    faultIs(x, ";", 0, 1, 0);
    faultIs(x, "n;;", 2, 1, 0);
    faultIs(x, ",", 0, 1, 0);
    faultIs(x, "7", 0, 1, 0);
  }

  static void endsTooEarlyAtEachPlace() {
    sentence("Texts", CAUSE);
    for (String order : ORDERS) {
      JudgedBits x = new JudgedBits();
      for (int length = 1; length < order.length(); length++) {
        faultIs(x, order.substring(0, length), 0, 1, length);
        if (length % 4 == 1) faultIs(x, "x1;n;" + order.substring(0, length), 5, 1, length);
      }
    }
    JudgedBits x = new JudgedBits();
    faultIs(x, times(20, "s1;").substring(0, 59), 57, 1, 2);
    faultIs(x, times(6, "r0,20,00;") + "r0,20,", 54, 1, 6);
    faultIs(x, times(6, "r0,20,00;") + "r00,20", 54, 1, 6);
  }

  static void errorCodeIsTheCause() {
    sentence("Texts", CAUSE);
    faultIs(new JudgedBits(), "d1;", 0, 2, CANNOT);
    faultIs(new JudgedBits(), "d24;", 0, 2, CANNOT);
    faultIs(new JudgedBits(), "d25;", 0, 2, BAD);
    faultIs(new JudgedBits(), "d0;", 0, 2, BAD);
    JudgedBits x = inAlarmWithTwo();
    faultIs(x, "d1;", 0, 2, CANNOT);
    faultIs(x, "d25;", 0, 2, BAD);
    faultIs(x, "s1;d2;", 3, 2, CANNOT);
    faultIs(x, "s301;", 0, 2, BAD);
    x = withFullStore();
    faultIs(x, "d24;d24;d17;", 8, 2, CANNOT);
    faultIs(x, "d24;d24;d25;", 8, 2, BAD);
    faultless(x, "d24;d24;d16;", 3);
  }

  // ---- promises 18 and 19

  static void type() {
    String heading = "Promise 18: type";
    sentence(heading, "- `character`: 32 to 126");
    JudgedBits x = new JudgedBits();
    for (int character : new int[] {LOW, -1, 0, 10, 31, 127, 128, 255, 256 + 'n', 65536 + 'n', HIGH}) due(x, BAD, "type", character);
    due(x, 0, "count", 9);
    due(x, 1, "type", 32);
    due(x, 2, "type", 33);
    due(x, 3, "type", 125);
    due(x, 4, "type", 126);
    sentence(heading, "Returns the length of the text; INVALID_ARGUMENT if character is out of range; LIMIT_REACHED if it has 60 characters.");
    x = new JudgedBits();
    for (int n = 1; n < 60; n++) due(x, n, "type", "n;".charAt((n - 1) % 2));
    due("59 of 60: the last order is cut", x.fault(0), 58);
    due(x, BAD, "type", 127);
    due(x, 59, "count", 9);
    due(x, 60, "type", ';');
    due(x, NONE, "fault", 0);
    for (int character : new int[] {32, 'n', ';', 126}) due(x, FULL, "type", character);
    for (int character : new int[] {LOW, 31, 127, HIGH}) due(x, BAD, "type", character);
    due(x, 60, "count", 9);
    due(x, 30, "play");
    sentence(heading, "Appends a character to the text.");
    x = new JudgedBits();
    due(x, 1, "type", 'n');
    due(x, 1, "fault", 2);
    due(x, 2, "type", ';');
    due(x, 1, "play");
    due(x, 3, "type", '~');
    due(x, 2, "fault", 0);
  }

  static void clearText() {
    String heading = "Promise 19: clearText";
    sentence(heading, "Returns the length it had.");
    for (int length : new int[] {0, 1, 2, 59, 60}) {
      JudgedBits x = with(new JudgedBits(), times(length, "~"));
      due(x, length, "clearText");
      due(x, 0, "clearText");
    }
    sentence(heading, "Empties the text.");
    JudgedBits x = with(new JudgedBits(), times(60, "~"));
    x.clearText();
    due(x, 0, "count", 9);
    due(x, NONE, "fault", 0);
    due(x, 0, "play");
    due(x, 1, "type", 'n');
    due("nothing of the text before", x.fault(2), 1);
    due(x, 2, "type", ';');
    due(x, 1, "play");
  }

  // ---- promises 20 and 21

  static void fault() {
    String heading = "Promise 20: fault";
    sentence(heading, "- `what`: 0: its position; 1: its reason; 2: its cause");
    JudgedBits x = with(new JudgedBits(), "n;s300~");
    int[] told = {2, 1, 4};
    for (int what = 0; what < 3; what++) due(x, told[what], "fault", what);
    for (int what : new int[] {LOW, -1, 3, HIGH}) due(x, BAD, "fault", what);
    sentence(heading, "Returns that; INVALID_ARGUMENT if what is out of range; NOT_FOUND if the text has no fault (also if it is empty).");
    for (int what : new int[] {LOW, -1, 3, HIGH}) {
      due(new JudgedBits(), BAD, "fault", what);
      due(with(new JudgedBits(), "n;"), BAD, "fault", what);
    }
    for (int what = 0; what < 3; what++) {
      due(new JudgedBits(), NONE, "fault", what);
      due(with(new JudgedBits(), "n;"), NONE, "fault", what);
      due(with(new JudgedBits(), times(30, "n;")), NONE, "fault", what);
      due(with(inAlarm(), "n;s64;"), NONE, "fault", what);
    }
    x = with(new JudgedBits(), "q");
    x.clearText();
    for (int what = 0; what < 3; what++) due(x, NONE, "fault", what);
  }

  static void play() {
    String heading = "Promise 21: play";
    sentence(heading, "Returns how many there are in it; NOT_POSSIBLE if it has a fault.");
    due(new JudgedBits(), 0, "play");
    due(with(new JudgedBits(), "n;"), 1, "play");
    due(with(new JudgedBits(), times(29, "n;")), 29, "play");
    due(with(new JudgedBits(), times(30, "n;")), 30, "play");
    due(with(new JudgedBits(), times(12, "s300;")), 12, "play");
    due(with(new JudgedBits(), "n"), CANNOT, "play");
    due(with(new JudgedBits(), times(29, "n;") + "n"), CANNOT, "play");
    due(with(new JudgedBits(), "d1;"), CANNOT, "play");
    sentence(heading, "Does all orders of the text, which stays.");
    JudgedBits x = with(alternating(), times(12, "s300;"));
    due(x, 12, "play");
    due("samples of 12 orders", x.count(0), 3600);
    due("the text stays", x.count(9), 60);
    due(x, 12, "play");
    due("samples of 24 orders", x.count(0), 7200);
    x = with(alternating(), "s112;d24;r0,20,0;r1,80,0;x9;n;s1;");
    due(x, 7, "play");
    due(x, 24, "count", 5);
    due(x, 63, "source", 2);
    due(x, 0, "raw", 0);
    due(x, 9 * 75 * 75, "source", 9);
  }

  static void playIsOneChange() {
    sentence("Promise 21: play", "They are one change, also if there are none.");
    JudgedBits x = new JudgedBits();
    due(x, 0, "play");
    due(x, 1, "count", 8);
    due(x, 0, "play");
    due(x, 2, "count", 8);
    write(x, "s64;x5;n;");
    List<Integer> before = picture(x, 4);
    due(x, 3, "play");
    due(x, 3, "count", 8);
    due(x, 2, "undo");
    due("all orders are undone at once", picture(x, 4).equals(before) ? 1 : 0, 1);
    due("the text stays", x.count(9), 9);
    due(x, 1, "undo");
    due(x, 0, "undo");
    due(x, CANNOT, "undo");
    write(x, times(30, "n;"));
    for (int n = 1; n <= 6; n++) {
      due(x, 30, "play");
      due(x, Math.min(n, 4), "count", 8);
    }
  }

  static void playWithAFault() {
    sentence("Promise 21: play", "NOT_POSSIBLE if it has a fault");
    for (String text : new String[] {"s64;x5;r0,10,0;n;q", "s64;x5;r0,10,0;n;d1;", "s64;x5;r0,10,0;n;s301;", "s64;x5;r0,10,0;n;s1", "q"}) {
      JudgedBits x = with(new JudgedBits(), text);
      List<Integer> before = picture(x, 4);
      due(text + " is played", x.play(), CANNOT);
      due("nothing of " + text + " is done", picture(x, 4).equals(before) ? 1 : 0, 1);
      due("no state by " + text, x.count(8), 0);
      due("the text stays", x.count(9), text.length());
    }
  }
}
