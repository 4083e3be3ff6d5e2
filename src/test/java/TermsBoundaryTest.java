/** Each sentence of "Terms" (and of "What it is") that names a boundary case, by a test of its own. */
public final class TermsBoundaryTest {
  private static final int BAD = Says.BAD, STATE = Says.STATE, FULL = Says.FULL, OVER = Says.OVER;
  private static final int NONE = Says.NONE, NO = Says.NO, LOW = Says.LOW, HIGH = Says.HIGH, UNIT = Says.UNIT;
  private static final String LEVEL = Says.LEVEL, UPRIGHT = Says.UPRIGHT, STANDING = Says.STANDING, DOT = Says.DOT;
  private static final String EIGHT = "a1 2 3 4 5 6 7 8";

  public static void main(String[] args) throws Exception {
    Says.readDocument();
    calls();
    fourArcs();
    coordinates();
    endsOfAnArc();
    lengthOfText();
    blanks();
    items();
    minus();
    tokens();
    firstFault();
    faultyTokens();
    tooEarly();
    nodes();
    leastPart();
    deep();
    stepsAndSides();
    band();
    clears();
    apart();
    turn();
    crossed();
    meetingsOfPairs();
    order();
    over();
    spots();
    numbersOfSpots();
    kinds();
    nothingChanges();
    area();
    bends();
    goes();
    done();
    undone();
    busiest();
    seen();
    unseen();
    images();
    readAnew();
    refusedInOrder();
    refusedChangesNothing();
    no();
    Says.allSaid("What it is", "Where arcs meet: cubic arcs by four points in whole numbers, told by a text, halved without loss;"
        + " boxes, lines through the ends with the band in which a piece lies, steps that turn one way; pieces that are apart, and why,"
        + " pieces that cross just once for certain, pieces of which it is in doubt; all meetings of two arcs, doubts that hang together"
        + " as one spot, told apart as likely crossings, touches, overlaps; areas beside arcs; points moved, arcs shifted, reversed,"
        + " undone; bends, which way pieces go, places on arcs; the two arcs that meet most; which arc it is, by in how many spots it"
        + " meets others; images. ======== 1 ARCS 0, 1, ..");
    Says.allSaid("Terms", "======== 2", "======== 3",
        "Ahead of the calls `type`, `clear`, `arcs`, `point` the interface says: ---- what is told.",
        "Ahead of the calls `moves`, `shifts`, `reverses`, `undo` the interface says: ---- what is done.",
        "Ahead of the calls `apart`, `turn`, `bends`, `goes`, `area` the interface says: ---- pieces.",
        "Ahead of the calls `meets`, `meeting`, `spot`, `busiest` the interface says: ---- meetings.",
        "Ahead of the calls `sees`, `forget`, `unseen` the interface says: ---- which arc.",
        "Ahead of the calls `keep`, `back`, `count` the interface says: ---- images.");
    Says.end();
  }

  private static void due(String call, int got, int want) {
    Says.due(call, got, want);
  }

  private static CurveMeetings told(String text) {
    return Says.told(text);
  }

  // ---- 0: calls

  private static void calls() {
    Says.says("What it is", "An object is used for at most 512 calls after it has been made; what later calls answer is free.");
    CurveMeetings x = new CurveMeetings();
    int calls = 0;
    for (int k = 1; k <= 130; k++, calls++) due("type(32)", x.type(32), k);
    for (int k = 0; k < 340; k++, calls++) due("type(97) at 130", x.type(97), FULL);
    due("clear()", x.clear(), 130);
    calls++;
    for (char letter : (LEVEL + UPRIGHT).toCharArray()) {
      x.type(letter);
      calls++;
    }
    due("arcs()", x.arcs(), 2);
    due("calls so far", ++calls, 507);
    due("the 508th, keep(0)", x.keep(0), 2);
    due("the 509th, shifts(1, 9, 0)", x.shifts(1, 9, 0), 1);
    due("the 510th, meets(0, 1, 2)", x.meets(0, 1, 2), 0);
    due("the 511th, undo()", x.undo(), 0);
    due("the 512th, meets(0, 1, 2)", x.meets(0, 1, 2), 1);
  }

  // ---- 1: arcs and the text

  private static void fourArcs() {
    Says.terms("(4 at most), each by four POINTS 0 .. 3");
    CurveMeetings x = told(DOT + "a1 1 1 1 1 1 1 1;a2 2 2 2 2 2 2 2;a3 3 3 3 3 3 3 3;");
    due("count(0)", x.count(0), 4);
    for (int arc = 0; arc < 4; arc++) Says.points(x, arc, arc, arc, arc, arc, arc, arc, arc, arc);
    due("point of ARC 4", x.point(4, 1, 0, 0), NO);
    due("POINT 3", x.point(3, 1, 3, 1), 3 * UNIT);
    due("POINT 4", x.point(3, 1, 4, 1), NO);
    due("POINT -1", x.point(3, 1, -1, 1), NO);
    Says.fault(DOT + DOT + DOT + DOT + DOT, 4 * DOT.length());
  }

  private static void coordinates() {
    Says.terms(", of coordinates x, y (-9 .. 9).");
    CurveMeetings x = told("a-9 9 9 -9 -9 -9 9 9;");
    Says.points(x, 0, -9, 9, 9, -9, -9, -9, 9, 9);
    Says.fault("a10 0 0 0 0 0 0 0;", 1);
    Says.fault("a-10 0 0 0 0 0 0 0;", 2);
    for (int far : new int[] {-10, 10, LOW, HIGH}) {
      due("moves to x " + far, x.moves(0, 0, far, 0), BAD);
      due("moves to y " + far, x.moves(0, 0, 0, far), BAD);
    }
    for (int near : new int[] {-9, 9}) {
      due("moves to x " + near, x.moves(0, 0, near, 0), 1);
      due("moves to y " + near, x.moves(0, 0, 0, near), 1);
    }
    due("shifts by 1 from 9", x.shifts(0, 1, 0), BAD);
    due("shifts by -1 from -9", x.shifts(0, -1, 0), BAD);
  }

  private static void endsOfAnArc() {
    Says.terms("At t from 0 to 1 an ARC is at (1 less t) to the power of 3 times POINT 0, 3 t (1 less t) to the power of 2 times"
        + " POINT 1, 3 t t (1 less t) times POINT 2, t to the power of 3 times POINT 3 together.");
    // Where t is k 32nds, each of these is k's part of 32768 alone.
    int[][] parts = {{1, 0, 0, 0}, {0, 1, 0, 0}, {0, 0, 1, 0}, {0, 0, 0, 1}};
    for (int i = 0; i < 4; i++) {
      int[] p = parts[i];
      CurveMeetings x = told("a" + p[0] + " 0 " + p[1] + " 0 " + p[2] + " 0 " + p[3] + " 0;");
      for (int k = 0; k <= 32; k++) {
        int[] weights = {(32 - k) * (32 - k) * (32 - k), 3 * k * (32 - k) * (32 - k), 3 * k * k * (32 - k), k * k * k};
        int got = k < 32 ? x.point(0, 32 + k, 0, 0) : x.point(0, 63, 3, 0);
        due("t is " + k + " 32nds, POINT " + i, got, weights[i]);
      }
    }
  }

  private static void lengthOfText() {
    Says.terms("They are a text (130 letters at most), told letter by letter,");
    String items = DOT + DOT + DOT + DOT;
    CurveMeetings x = Says.typed(new CurveMeetings(), items + " ".repeat(128 - items.length()));
    due("the 129th", x.type(32), 129);
    due("the 130th", x.type(32), 130);
    due("the 131st", x.type('a'), FULL);
    due("count(2)", x.count(2), 130);
    due("arcs() of 130", x.arcs(), 4);
    CurveMeetings last = Says.typed(new CurveMeetings(), " ".repeat(129 - EIGHT.length()) + EIGHT);
    due("the 130th", last.type(';'), 130);
    due("arcs() whose last letter is the 130th", last.arcs(), 1);
    due("arcs() of no letter", new CurveMeetings().arcs(), 0);
  }

  private static void blanks() {
    Says.terms("blanks (32) between TOKENS;");
    Says.points(told("a-1-2-3-4-5-6-7-8;"), 0, -1, -2, -3, -4, -5, -6, -7, -8);
    Says.points(told("   a   -   1   2 3 4 5 6 7 8   ;   "), 0, -1, 2, 3, 4, 5, 6, 7, 8);
    due("blanks alone", Says.arcsOf("   "), 0);
    due("130 blanks", Says.arcsOf(" ".repeat(130)), 0);
    // No blank is needed but between two numbers, which are one without it.
    Says.fault("a12 3 4 5 6 7 8;", 1);
    for (int letter : new int[] {0, 9, 10, 13, 31, 33, 95, 160, 255}) {
      Says.fault("a1" + (char) letter + "2 3 4 5 6 7 8;", 2);
      Says.fault((char) letter + EIGHT + ";", 0);
      Says.fault(EIGHT + ";" + (char) letter, 17);
    }
  }

  private static void items() {
    Says.terms("ITEMS, each ended by ; : a and eight numbers: x, y of POINTS 0 to 3 (the next ARC).");
    Says.points(told(EIGHT + ";"), 0, 1, 2, 3, 4, 5, 6, 7, 8);
    CurveMeetings two = told(EIGHT + ";a-1-2-3-4-5-6-7-8;");
    Says.points(two, 0, 1, 2, 3, 4, 5, 6, 7, 8);
    Says.points(two, 1, -1, -2, -3, -4, -5, -6, -7, -8);
    due("no item", Says.arcsOf(""), 0);
    Says.fault("a;", 1);
    Says.fault("a1 2 3 4 5 6 7;", 14);
    Says.fault("a1 2 3 4 5 6 7 8 9;", 17);
    Says.fault(EIGHT, 16);
    Says.fault(EIGHT + "a", 16);
    Says.fault(EIGHT + ";;", 17);
    Says.fault("1 2 3 4 5 6 7 8;", 0);
  }

  private static void minus() {
    Says.terms("A number may have a - ahead of it (- 0 is 0).");
    CurveMeetings x = told("a-0 - 0 -9 9 -1 1 0 -0;");
    Says.points(x, 0, 0, 0, -9, 9, -1, 1, 0, 0);
    due("moves to 0, 0 from - 0, - 0", x.moves(0, 0, 0, 0), STATE);
    Says.fault("a--1 2 3 4 5 6 7 8;", 2);
    Says.fault("a- -1 2 3 4 5 6 7 8;", 3);
    Says.fault("a1 2 3 4 5 6 7 -;", 16);
    Says.fault("a1 2 3 4 5 6 7 8 -;", 17);
    Says.fault("a1 2 3 4 5 6 7 8-;", 16);
    Says.fault("-" + EIGHT + ";", 0);
  }

  private static void tokens() {
    Says.terms("TOKENS are the letter a, the sign -, NUMBERS (rows of figures) and ; .");
    for (int letter = 0; letter < 256; letter++) {
      String sign = String.valueOf((char) letter);
      boolean figure = letter >= '0' && letter <= '9';
      String name = "arcs() with letter " + letter;
      int first = letter == ' ' ? 0 : letter == 'a' ? -11 : -10;
      due(name + " alone", Says.arcsOf(sign), first);
      int behindA = letter == ' ' || letter == '-' || figure ? -12 : -11;
      due(name + " behind a", Says.arcsOf("a" + sign), behindA);
      int behindMinus = letter == ' ' || figure ? -13 : -12;
      due(name + " behind -", Says.arcsOf("a-" + sign), behindMinus);
      // A figure there makes the number before it too great, and that one's place is the fault.
      int behindAll = letter == ';' ? 1 : letter == ' ' ? -27 : figure ? -25 : -26;
      due(name + " behind eight", Says.arcsOf(EIGHT + sign), behindAll);
      int behindBlank = letter == ';' ? 1 : letter == ' ' ? -28 : -27;
      due(name + " behind eight and a blank", Says.arcsOf(EIGHT + " " + sign), behindBlank);
      int behindItem = letter == ' ' ? 1 : letter == 'a' ? -28 : -27;
      due(name + " behind an item", Says.arcsOf(EIGHT + ";" + sign), behindItem);
    }
  }

  private static void firstFault() {
    Says.terms("FAULT: the place of the first letter of the first TOKEN that can't stand there (a fifth a, too);");
    Says.fault("a;;", 1);
    Says.fault("a 1 ; x", 4);
    Says.fault("x a 10", 0);
    Says.fault("a 10 x", 2);
    Says.fault("aa", 1);
    Says.fault("a   a", 4);
    Says.fault(";", 0);
    Says.fault("   ;", 3);
    Says.fault("0", 0);
    String four = DOT + DOT + DOT + DOT;
    due("four", Says.arcsOf(four), 4);
    due("four and blanks", Says.arcsOf(four + "  "), 4);
    Says.fault(four + "a", 68);
    Says.fault(four + "  a", 70);
    Says.fault(four + DOT, 68);
    Says.fault(four + " ;", 69);
    Says.fault(four + " 1", 69);
    Says.fault(four + " -", 69);
    Says.fault(DOT + DOT + DOT + EIGHT + "a", 67);
  }

  private static void faultyTokens() {
    Says.terms("of any other letter, a NUMBER above 9 or with a 0 ahead of others, that TOKEN's;");
    for (int number = 0; number <= 9; number++) {
      Says.points(told("a" + number + " 0 0 0 0 0 0 0;"), 0, number, 0, 0, 0, 0, 0, 0, 0);
    }
    for (String number : new String[] {"10", "11", "19", "90", "99", "100", "00", "01", "09", "000", "010", "4294967296",
        "4294967297", "18446744073709551616", "99999999999999999999999999"}) {
      Says.fault("a" + number + " 0 0 0 0 0 0 0;", 1);
      Says.fault("a 0 - " + number + " 0 0 0 0 0 0;", 6);
      Says.fault("a0 0 0 0 0 0 0 " + number + ";", 15);
      Says.fault("a " + number, 2);
    }
    Says.fault("ab", 1);
    Says.fault("a 1 b", 4);
    Says.fault("a1b", 2);
    Says.fault("b1", 0);
    Says.fault(EIGHT + ".", 16);
  }

  private static void tooEarly() {
    Says.terms("the text's length, if it ends too early.");
    String item = "a-1 2 3 4 5 6 7 8;";
    for (int length = 1; length < item.length(); length++) Says.fault(item.substring(0, length), length);
    due("nothing of an item", Says.arcsOf(""), 0);
    due("all of it", Says.arcsOf(item), 1);
    for (int length = 1; length < item.length(); length++) {
      Says.fault(item + item.substring(0, length), item.length() + length);
    }
    Says.fault("a   ", 4);
    Says.fault(EIGHT + "  ", 18);
    Says.fault(EIGHT + " ".repeat(130 - EIGHT.length()), 130);
    CurveMeetings x = Says.typed(new CurveMeetings(), EIGHT);
    due("too early", x.arcs(), -26);
    due("it goes on", x.type(';'), 17);
    due("it is whole", x.arcs(), 1);
  }

  private static void nodes() {
    Says.terms("NODES of an ARC: 1 is all of it, the halves of NODE m are 2 m (t up to its middle) and 2 m and 1, to 63"
        + " (five times halved).");
    CurveMeetings x = told("a-9 7 8 -6 -5 4 3 -2;");
    int[] numbers = {-9, 7, 8, -6, -5, 4, 3, -2};
    Says.points(x, 0, numbers);
    for (int axis = 0; axis < 2; axis++) {
      for (int m = 1; m < 32; m++) {
        due("the beginning of " + 2 * m, x.point(0, 2 * m, 0, axis), x.point(0, m, 0, axis));
        due("the end of " + (2 * m + 1), x.point(0, 2 * m + 1, 3, axis), x.point(0, m, 3, axis));
        due("the middle of " + m, x.point(0, 2 * m, 3, axis), x.point(0, 2 * m + 1, 0, axis));
      }
      due("NODE 32", x.point(0, 32, 0, axis), numbers[axis] * UNIT);
      due("NODE 63", x.point(0, 63, 3, axis), numbers[6 + axis] * UNIT);
      for (int node : new int[] {0, 64, 65, 127, 128, -1, -63, LOW, HIGH}) due("NODE " + node, x.point(0, node, 0, axis), NO);
    }
    Says.terms("A NODE is an arc by four POINTS of its own (those of the same curve, from its own beginning to its own end):");
    // x is 8 t t t: of t from 1/2 to 1 it is (1 and s) to the power of 3, by points 1, 2, 4, 8.
    CurveMeetings cube = told("a0 0 0 0 0 0 8 0;");
    int[] left = {0, 0, 0, 1}, right = {1, 2, 4, 8};
    for (int i = 0; i < 4; i++) {
      due("POINT " + i + " of NODE 2", cube.point(0, 2, i, 0), left[i] * UNIT);
      due("POINT " + i + " of NODE 3", cube.point(0, 3, i, 0), right[i] * UNIT);
    }
  }

  private static void leastPart() {
    Says.terms("all of them are multiples of 1 by 32768.");
    // t to the power of 3, up to a 32nd: at its end it is one 32768th, and 0 before.
    CurveMeetings x = told("a0 0 0 0 0 0 1 -1;");
    int[] first = {0, 0, 0, 1};
    for (int i = 0; i < 4; i++) {
      due("POINT " + i + " of NODE 32", x.point(0, 32, i, 0), first[i]);
      due("POINT " + i + " of NODE 32, below 0", x.point(0, 32, i, 1), -first[i]);
    }
    // From a 32nd to two: by points 1, 2, 4, 8 32768ths.
    for (int i = 0; i < 4; i++) due("POINT " + i + " of NODE 33", x.point(0, 33, i, 0), 1 << i);
    // (31 less or 32, of 32) to the power of 3, all odd but the last.
    int[] last = {29791, 30752, 31744, 32768};
    for (int i = 0; i < 4; i++) due("POINT " + i + " of NODE 63", x.point(0, 63, i, 1), -last[i]);
    due("the farthest", told("a0 0 0 0 0 0 9 -9;").point(0, 63, 3, 1), -294912);
  }

  private static void deep() {
    Says.terms("DEEP: how often it was halved (0 .. 5).");
    // All meetings of one line twice are doubts: of NODES that were halved five times alone.
    CurveMeetings x = told(LEVEL + LEVEL);
    for (int k = 0; k < 94; k++) {
      int p = x.meeting(0, 1, k, 0), q = x.meeting(0, 1, k, 1);
      due("DEEP 5 of doubt " + k, p >= 32 && p <= 63 && q >= 32 && q <= 63 ? 5 : 0, 5);
    }
    due("DEEP 0 of a crossing", told(LEVEL + UPRIGHT).meeting(0, 1, 0, 0), 1);
  }

  // ---- 2: pieces

  private static void stepsAndSides() {
    Says.terms("STEPS of a NODE: POINT 1 less POINT 0, 2 less 1, 3 less 2.");
    // Along x the steps are 1, 0, -1; along y -1, 0, 0.
    CurveMeetings x = told("a0 0 1 -1 1 -1 0 -1;");
    due("there and back", x.goes(0, 1, 0), 3);
    due("the first alone", x.goes(0, 1, 1), 2);
    Says.terms("CROSS of two steps (a, b), (c, d): a times d, less b times c.");
    due("(1, 0), (0, 1): above 0", told("a0 0 1 0 2 0 3 0;a0 0 0 1 0 2 0 3;").turn(0, 1, 1, 1), 1);
    due("(0, 1), (1, 0): below 0", told("a0 0 0 1 0 2 0 3;a0 0 1 0 2 0 3 0;").turn(0, 1, 1, 1), 2);
    due("(1, 2), (2, 4): 0", told("a0 0 1 2 2 4 3 6;a0 0 2 4 4 8 6 9;").turn(0, 1, 1, 1), 0);
    // Steps as great as can be: 18 times 18 times 32768 times 32768, twice, is far above an int.
    due("the greatest", told("a-9 -9 9 9 9 9 9 9;a-9 9 9 -9 9 -9 9 -9;").bends(0, 1), 0);
    due("above 0", told("a-9 -9 9 -9 9 9 -9 9;").bends(0, 1), 1);
    due("below 0", told("a-9 9 9 9 9 -9 -9 -9;").bends(0, 1), 2);
    // As small as can be: STEPS of the second 32nd are 1, 2 and 4 32768ths along x, and along y likewise.
    CurveMeetings least = told("a0 0 0 0 0 0 1 0;a0 0 0 0 0 0 0 1;");
    due("1 is above 0", least.turn(0, 33, 1, 33), 1);
    due("-1 is below 0", least.turn(1, 33, 0, 33), 2);
    due("0 is neither", least.turn(0, 32, 1, 33), 0);
    Says.terms("SIDE of a place p by a NODE: CROSS of POINT 3 less POINT 0, and p less POINT 0.");
    // By a slope: places to its left are above it, whichever way they lie from the beginning.
    CurveMeetings slope = told("a-9 -9 -3 -3 3 3 9 9;a-9 -8 -8 -7 7 8 8 9;");
    due("all to the left", slope.apart(0, 1, 1, 1), 2);
    due("reverses", slope.reverses(0), 1);
    due("all to the right", slope.apart(0, 1, 1, 1), 2);
    due("moves", slope.moves(1, 2, 8, 8), 1);
    due("one on the line", slope.apart(0, 1, 1, 1), 0);
  }

  /** Sides by it are 6 times how much y less x is: 0, 1, -1, 0, so its BAND is from -6 to 6. */
  private static final String WAVE = "a-3 -3 -1 0 1 0 3 3;";
  /** Of these all POINTS have as much y less x: none. */
  private static final int[][] ALONG = {{-3, -3}, {-1, -1}, {0, 0}, {2, 2}};

  /** Points along the wave, those of y less x being these. */
  private static String along(int... above) {
    StringBuilder item = new StringBuilder("a");
    for (int i = 0; i < 4; i++) item.append(ALONG[i][0]).append(' ').append(ALONG[i][1] + above[i]).append(' ');
    return item.append(';').toString();
  }

  private static void band() {
    Says.terms("BAND of a NODE: from the least to the greatest SIDE of its own four POINTS.");
    due("all above it", told(WAVE + along(2, 2, 2, 2)).apart(0, 1, 1, 1), 2);
    due("all at its upper edge", told(WAVE + along(1, 1, 1, 1)).apart(0, 1, 1, 1), 0);
    due("all in it", told(WAVE + along(0, 0, 0, 0)).apart(0, 1, 1, 1), 0);
    due("all at its lower edge", told(WAVE + along(-1, -1, -1, -1)).apart(0, 1, 1, 1), 0);
    due("all below it", told(WAVE + along(-2, -2, -2, -2)).apart(0, 1, 1, 1), 2);
    // POINT 1 and POINT 2 each make an edge alone, above and below.
    String[] edges = {"a-3 -3 -1 0 1 1 3 3;", "a-3 -3 -1 -1 1 2 3 3;"};
    for (String edge : edges) {
      due("at the upper edge of " + edge, told(edge + along(1, 1, 1, 1)).apart(0, 1, 1, 1), 0);
      due("above " + edge, told(edge + along(2, 2, 2, 2)).apart(0, 1, 1, 1), 2);
      due("below " + edge, told(edge + along(-1, -1, -1, -1)).apart(0, 1, 1, 1), 2);
    }
    // As near as can be, from 0, 0 to 1, 1 (32768ths): 0, 1 is above it by 1, and 1, 0 below it by 1.
    due("above it by 1", told("a0 0 0 0 0 0 1 1;a0 0 0 0 0 0 0 1;").apart(0, 32, 1, 33), 2);
    due("below it by 1", told("a0 0 0 0 0 0 1 1;a0 0 0 0 0 0 1 0;").apart(0, 32, 1, 33), 2);
    // It is that of the POINTS as they are: the wave's is less when it is made straight, and great again behind undo().
    for (int side = -1; side <= 1; side += 2) {
      CurveMeetings x = told(WAVE + along(side, side, side, side));
      due("at the edge", x.apart(0, 1, 1, 1), 0);
      due("moves", x.moves(0, 1, -1, -1), 1);
      due("moves", x.moves(0, 2, 1, 1), 1);
      due("beside the straight one", x.apart(0, 1, 1, 1), 2);
      due("undo", x.undo(), 1);
      due("undo", x.undo(), 0);
      due("at the edge again", x.apart(0, 1, 1, 1), 0);
    }
    // A straight one has a BAND of nothing but 0.
    String straight = "a-3 -3 -1 -1 1 1 3 3;";
    due("above a straight one", told(straight + along(1, 1, 1, 1)).apart(0, 1, 1, 1), 2);
    due("below a straight one", told(straight + along(-1, -1, -1, -1)).apart(0, 1, 1, 1), 2);
    due("on a straight one", told(straight + along(0, 0, 0, 0)).apart(0, 1, 1, 1), 0);
  }

  private static void clears() {
    Says.terms("Of NODES m of an ARC and n of another one: m CLEARS n, if SIDES by m of all POINTS of n are above BAND of m, or all"
        + " are below it.");
    for (int i = 0; i < 4; i++) {
      int[] above = {2, 2, 2, 2}, below = {-2, -2, -2, -2};
      above[i] = 1;
      below[i] = -1;
      // At the ends the line of n goes off, and n clears m; so 3, but never 2.
      int due = i == 0 || i == 3 ? 3 : 0;
      due("POINT " + i + " at the upper edge", told(WAVE + along(above)).apart(0, 1, 1, 1), due);
      due("POINT " + i + " at the lower edge", told(WAVE + along(below)).apart(0, 1, 1, 1), due);
      above[i] = -2;
      due("POINT " + i + " on the other side", told(WAVE + along(above)).apart(0, 1, 1, 1) == 2 ? 1 : 0, 0);
    }
    due("two above, two below", told(WAVE + along(2, 2, -2, -2)).apart(0, 1, 1, 1), 0);
    // Ends in one place: all SIDES are 0, nothing is above or below.
    CurveMeetings loop = told("a0 0 6 0 0 6 0 0;a4 4 4 4 4 4 4 4;");
    due("a loop and a dot in its box", loop.apart(0, 1, 1, 1), 0);
    due("a dot and a loop around it", loop.apart(1, 1, 0, 1), 0);
    CurveMeetings dot = told("a-6 -6 -2 -2 2 2 6 6;a1 0 1 0 1 0 1 0;");
    due("a line clears a dot beside it", dot.apart(0, 1, 1, 1), 2);
    due("a dot clears no line", dot.apart(1, 1, 0, 1), 3);
    due("moves", dot.shifts(1, 0, 1), 1);
    due("a dot on the line", dot.apart(0, 1, 1, 1), 0);
  }

  /** It fills the box from 0, 0 to 3, 3, and its BAND is from -9 to 9 (3 times y less x). */
  private static final String BOX = "a0 0 3 0 0 3 3 3;";

  private static void apart() {
    Says.terms("APART: 1: the greatest x, or y, of POINTS of the one is below the least of the other;");
    int[][] ways = {{1, 0}, {-1, 0}, {0, 1}, {0, -1}};
    for (int[] way : ways) {
      CurveMeetings x = told(BOX + BOX);
      due("shifts by 3", x.shifts(1, 3 * way[0], 3 * way[1]), 1);
      due("the greatest is the least", x.apart(0, 1, 1, 1), 0);
      due("the greatest is the least", x.apart(1, 1, 0, 1), 0);
      due("shifts by 1", x.shifts(1, way[0], way[1]), 1);
      due("the greatest is below the least", x.apart(0, 1, 1, 1), 1);
      due("the greatest is below the least", x.apart(1, 1, 0, 1), 1);
    }
    // By one 32768th: y is t to the power of 3, whose first 32nd ends at 1, and -8 of them at the second.
    CurveMeetings x = told("a-1 0 0 0 1 0 2 0;a0 0 0 0 0 0 0 1;");
    due("y of NODE 32 begins at 0", x.apart(0, 1, 1, 32), 0);
    due("y of NODE 33 begins at one 32768th", x.apart(0, 1, 1, 33), 1);
    due("y of NODE 33 begins at one 32768th", x.apart(1, 33, 0, 1), 1);
    Says.terms("else 2: m CLEARS n; else 3: n CLEARS m; else not (0).");
    CurveMeetings both = told("a-6 -6 -2 -2 2 2 6 6;a-6 -5 -2 -1 1 2 5 6;");
    due("both clear", both.apart(0, 1, 1, 1), 2);
    due("both clear", both.apart(1, 1, 0, 1), 2);
    CurveMeetings one = told("a-6 -6 -2 -2 2 2 6 6;a-3 0 -3 1 -2 1 -2 2;");
    due("m clears n alone", one.apart(0, 1, 1, 1), 2);
    due("n clears m alone", one.apart(1, 1, 0, 1), 3);
    due("none clears", told(LEVEL + UPRIGHT).apart(0, 1, 1, 1), 0);
    CurveMeetings all = told("a-6 -6 -5 -5 -4 -4 -3 -3;a-2 0 -1 1 0 2 1 3;");
    due("boxes apart, and both clear", all.apart(0, 1, 1, 1), 1);
  }

  /** Steps of an arc from -4, -4. */
  private static String item(int[][] steps) {
    int x = -4, y = -4;
    StringBuilder item = new StringBuilder("a" + x + " " + y);
    for (int[] step : steps) {
      x += step[0];
      y += step[1];
      item.append(' ').append(x).append(' ').append(y);
    }
    return item.append(';').toString();
  }

  private static void turn() {
    Says.terms("TURN: 1 (-1), if all nine CROSSES of a STEP of m and one of n are above (below) 0, else 0.");
    for (int i = 0; i < 3; i++) {
      for (int j = 0; j < 3; j++) {
        int[][] m = {{1, 0}, {1, 0}, {1, 0}}, n = {{0, 1}, {0, 1}, {0, 1}};
        String which = "STEPS " + i + " and " + j;
        CurveMeetings all = told(item(m) + item(n));
        due("all nine above", all.turn(0, 1, 1, 1), 1);
        due("all nine below", all.turn(1, 1, 0, 1), 2);
        // (1, 1) and (1, 1) alone: 0; the others of (1, 1) are 1.
        m[i] = new int[] {1, 1};
        n[j] = new int[] {1, 1};
        CurveMeetings zero = told(item(m) + item(n));
        due("0 is that of " + which, zero.turn(0, 1, 1, 1), 0);
        due("0 is that of " + which, zero.turn(1, 1, 0, 1), 0);
        // (2, 1) and (1, 1): 1.
        m[i] = new int[] {2, 1};
        CurveMeetings least = told(item(m) + item(n));
        due("1 is that of " + which, least.turn(0, 1, 1, 1), 1);
        due("-1 is that of " + which, least.turn(1, 1, 0, 1), 2);
        // (1, 2) and (1, 1): -1.
        m[i] = new int[] {1, 2};
        CurveMeetings other = told(item(m) + item(n));
        due("-1 is that of " + which, other.turn(0, 1, 1, 1), 0);
        due("1 is that of " + which, other.turn(1, 1, 0, 1), 0);
      }
    }
    due("a step of nothing", told("a-6 0 -6 0 2 0 6 0;" + UPRIGHT).turn(0, 1, 1, 1), 0);
    due("no step at all", told(DOT + UPRIGHT).turn(0, 1, 1, 1), 0);
  }

  private static void crossed() {
    Says.terms("CROSSED: TURN is not 0, SIDES by m of POINTS 0 and 3 of n lie one above and one below BAND of m,");
    // The hump's BAND is from 0 to 36, 12 times y; upside down it is from -36 to 0.
    crossedFrom("a-6 0 -2 3 2 3 6 0;", -1, 4);
    crossedFrom("a-6 0 -2 -3 2 -3 6 0;", -4, 1);
    CurveMeetings beside = told("a-6 0 -2 3 2 3 6 0;a0 4 0 5 0 6 0 7;");
    due("both ends above", beside.turn(0, 1, 1, 1), 1);
    due("shifts", beside.shifts(1, 0, -9), 1);
    due("both ends below", beside.turn(0, 1, 1, 1), 1);
    // Ends beside each other, and one of nine CROSSES is 0.
    due("TURN is 0", told("a-6 0 -2 0 -2 0 6 0;" + UPRIGHT).turn(0, 1, 1, 1), 0);
    Says.terms("and SIDES by n of POINTS 0 and 3 of m likewise to BAND of n.");
    // Ends of n are beside m; POINT 0 of m is at the line of n, then one behind it; then POINT 3 likewise.
    for (String other : new String[] {"a0 0 1 0 2 0 3 0;", "a-3 0 -2 0 -1 0 0 0;", "a1 0 2 0 3 0 4 0;", "a-4 0 -3 0 -2 0 -1 0;"}) {
      due("m of " + other, told(other + UPRIGHT).turn(0, 1, 1, 1), 1);
      due("n of " + other, told(UPRIGHT + other).turn(0, 1, 1, 1), 2);
    }
    due("POINT 0 one behind it", told("a-1 0 1 0 2 0 3 0;" + UPRIGHT).turn(0, 1, 1, 1), 3);
    due("POINT 3 one behind it", told("a-3 0 -2 0 -1 0 1 0;" + UPRIGHT).turn(0, 1, 1, 1), 3);
  }

  /** An upright arc through this one is CROSSED from this y to that, and not if an end is one nearer. */
  private static void crossedFrom(String bent, int from, int to) {
    for (int first = from; first <= from + 1; first++) {
      for (int last = to - 1; last <= to; last++) {
        CurveMeetings x = told(bent + "a0 " + first + " 0 " + (first + 1) + " 0 " + (last - 1) + " 0 " + last + ";");
        boolean crossed = first == from && last == to;
        String call = "from " + first + " to " + last + " through " + bent;
        due(call, x.turn(0, 1, 1, 1), crossed ? 3 : 1);
        due(call, x.turn(1, 1, 0, 1), crossed ? 4 : 2);
        due("reverses", x.reverses(1), 1);
        due(call + ", reversed", x.turn(0, 1, 1, 1), crossed ? 4 : 2);
        due(call + ", reversed", x.turn(1, 1, 0, 1), crossed ? 3 : 1);
      }
    }
  }

  // ---- 2: meetings

  private static void meetingsOfPairs() {
    Says.terms("MEETINGS of ARCS P and Q: of the PAIR of NODES 1 and 1.");
    Says.same("meetings", Says.meetings(told(LEVEL + UPRIGHT)), "1/1:0");
    Says.terms("Of m and n: APART: none.");
    for (String other : new String[] {"a-6 1-2 1 2 1 6 1;", "a7 0 7 1 7 2 7 3;"}) {
      CurveMeetings x = told(LEVEL + other);
      for (int what = 0; what < 3; what++) due("meets of those apart", x.meets(0, 1, what), 0);
      due("the first of none", x.meeting(0, 1, 0, 0), NONE);
      due("the first of none", x.spot(0, 1, 0, 0), NONE);
    }
    Says.same("none, by 2 and 3", Says.meetings(told("a-6 -6 -2 -2 2 2 6 6;a-3 0 -3 1 -2 1 -2 2;")), "");
    Says.same("none, by 2 and 3", Says.meetings(told("a-3 0 -3 1 -2 1 -2 2;a-6 -6 -2 -2 2 2 6 6;")), "");
    Says.terms("CROSSED: one, a CROSSING.");
    crossings("a-6 0-2 0 2 0 6 0;a0-6 0-2 0 2 0 6;", "1/1:0", "0 1 0 32 0 32");
    crossings("a4 2 -6 -3 7 -8 1 -4;a4 5 -6 1 -2 1 6 0;", "2/3:0", "0 1 0 16 16 32");
    // CROSSED is ahead of "Both DEEP 5": the last of these is of NODES 53 and 52, and a CROSSING.
    CurveMeetings deepest = told("a6 -3 0 6 -7 -4 2 -8;a6 -3 0 6 -7 -4 2 -9;");
    due("crossings", deepest.meets(0, 1, 0), 1);
    due("its NODE of P", deepest.meeting(0, 1, 8, 0), 53);
    due("its NODE of Q", deepest.meeting(0, 1, 8, 1), 52);
    due("CROSSED", deepest.turn(0, 53, 1, 52), 4);
    due("its kind", deepest.spot(0, 1, 1, 0), 0);
    Says.terms("Both DEEP 5: one, a DOUBT.");
    CurveMeetings doubt = told("a-6 0 -4 0 -2 0 0 0;" + STANDING);
    Says.same("a corner", Says.meetings(doubt), "63/32:0");
    due("crossings", doubt.meets(0, 1, 0), 0);
    due("doubts", doubt.meets(0, 1, 1), 1);
  }

  private static void crossings(String text, String meetings, String spots) {
    CurveMeetings x = told(text);
    Says.same("meetings of " + text, Says.meetings(x), meetings);
    Says.same("spots of " + text, Says.spots(x), spots);
    due("doubts of " + text, x.meets(0, 1, 1), 0);
  }

  private static void order() {
    Says.terms("Else those of 2 m and 2 n, of 2 m and 2 n and 1, of 2 m and 1 and 2 n, of 2 m and 1 and 2 n and 1, in this order.");
    // Both go out from 0, 0, back through it and back to it: at t 0, 1/2 (two NODES) and 1 each.
    Says.same("three places with three", Says.meetings(told("a0 0 -1 0 1 0 0 0;a0 0 -1 -1 1 1 0 0;")),
        "32/32:0 32/47:1 47/32:2 47/47:3 32/48:1 32/63:4 47/48:3 47/63:5"
        + " 48/32:2 48/47:3 63/32:6 63/47:7 48/48:3 48/63:5 63/48:7 63/63:8");
    // Crossings of halves that were halved unlike often come in the order of the halves, too.
    Says.same("with crossings", Says.meetings(told("a0 1 -1 -1 1 1 0 1;a0 1 2 1 -1 -1 0 1;")), "32/32:0 32/63:1 11/13:2 63/32:3 63/63:4");
  }

  private static void over() {
    Says.terms("OVER: there are more than 100.");
    CurveMeetings hundred = told(Says.HUNDRED);
    due("all of 100", hundred.meets(0, 1, 0) + hundred.meets(0, 1, 1), 100);
    due("all of 100, the other way", hundred.meets(1, 0, 0) + hundred.meets(1, 0, 1), 100);
    due("the 100th", hundred.meeting(0, 1, 99, 0) == NONE ? 1 : 0, 0);
    due("behind the 100th", hundred.meeting(0, 1, 100, 0), NONE);
    due("its spots", hundred.meets(0, 1, 2), 2);
    due("how many are in the first and in the second", hundred.spot(0, 1, 0, 1) + hundred.spot(0, 1, 1, 1), 100);
    // One bent arc twice: just 100, in one spot.
    Says.same("100 in one spot", Says.spots(told("a-6 -2 2 6 3 3 -5 2;a-6 -2 2 6 3 3 -5 2;")), "3 100 0 32 0 32");
    for (String text : new String[] {Says.OVER_HUNDRED, DOT + DOT}) {
      CurveMeetings over = told(text);
      for (int what = 0; what < 3; what++) {
        due("meets of more", over.meets(0, 1, what), OVER);
        due("meets of more, the other way", over.meets(1, 0, what), OVER);
        due("meeting of more", over.meeting(0, 1, 0, what), OVER);
        due("meeting 99 of more", over.meeting(0, 1, 99, what), OVER);
        due("meeting 100 of more", over.meeting(0, 1, 100, what), OVER);
      }
      for (int what = 0; what < 6; what++) due("spot of more", over.spot(0, 1, 0, what), OVER);
    }
  }

  private static void spots() {
    Says.terms("SPOTS: each CROSSING;");
    // NODES differ by 1 at most, but one of the two is a CROSSING; it comes first, then last.
    CurveMeetings first = told("a2 2 -6 5 -2 0 4 2;a4 2 -4 0 4 -4 5 -4;");
    Says.same("a crossing beside a doubt", Says.meetings(first), "62/33:0 63/32:1");
    Says.same("two spots", Says.spots(first), "0 1 30 31 1 2; 2 1 31 32 0 1");
    CurveMeetings last = told("a-6 -5 -4 -2 -2 5 -8 -7;a-8 -7 -7 -4 7 -2 7 -3;");
    Says.same("a doubt beside a crossing", Says.meetings(last), "63/32:0 63/33:1");
    Says.same("two spots", Says.spots(last), "2 1 31 32 0 1; 0 1 31 32 1 2");
    CurveMeetings seven = told("a1 2 -3 0 4 3 -1 1;a-4 1 4 1 -1 3 0 1;");
    due("seven crossings", seven.meets(0, 1, 0), 7);
    due("are seven spots", seven.meets(0, 1, 2), 7);
    Says.terms("and DOUBTS that hang together (two hang together, whose NODES of P differ by 1 at most, of Q, too;");
    Says.same("P by 1, Q by 0", Says.meetings(told(LEVEL + STANDING)), "47/32:0 48/32:0");
    Says.same("P by 0, Q by 1", Says.meetings(told(STANDING + LEVEL)), "32/47:0 32/48:0");
    Says.same("P by 1 and by 2", Says.meetings(told("a-4 -2 -2 2 -3 3 -3 3;a-3 3 2 -3 -1 4 4 -2;")), "60/32:0 61/32:0 63/32:1");
    Says.same("Q by 1 and by 2", Says.meetings(told("a-3 3 2 -3 -1 4 4 -2;a-4 -2 -2 2 -3 3 -3 3;")), "32/60:0 32/61:0 32/63:1");
    Says.same("P by 1, but Q by 2", Says.meetings(told("a2 2 2 -1 2 0 -2 0;a0 2 2 -1 2 0 -1 0;")), "49/49:0 50/51:1");
    Says.same("P by 2, but Q by 1", Says.meetings(told("a0 2 2 -1 2 0 -1 0;a2 2 2 -1 2 0 -2 0;")), "49/49:0 51/50:1");
    Says.same("P by 1, Q by -1", Says.meetings(told("a-1 0 0 -1 1 1 2 1;a0 1 1 1 0 -1 -1 0;")),
        "32/63:0 33/62:0 34/61:0 35/60:0 37/57:0 36/59:0 37/58:0 38/57:0");
    Says.terms("and what hangs together with one of them).");
    // One line twice: the first is 32 and 32, the last 63 and 63, and all of them are one.
    CurveMeetings line = told(LEVEL + LEVEL);
    due("spots", line.meets(0, 1, 2), 1);
    due("the first's", line.meeting(0, 1, 0, 2), 0);
    due("the last's", line.meeting(0, 1, 93, 2), 0);
    // 37/57 hangs on those before it by 36/59 and 37/58 alone, which come behind it.
    CurveMeetings later = told("a-1 0 0 -1 1 1 2 1;a0 1 1 1 0 -1 -1 0;");
    due("the fifth's NODE of P", later.meeting(0, 1, 4, 0), 37);
    due("the fifth's NODE of Q", later.meeting(0, 1, 4, 1), 57);
    Says.same("one spot", Says.spots(later), "2 8 0 7 25 32");
    // But nothing of two ARCS that were asked for before: 94 in one spot, or more than 100.
    for (String others : new String[] {LEVEL + LEVEL, DOT + DOT}) {
      CurveMeetings x = told("a0 0-1 0 1 0 0 0;a0 0-1-1 1 1 0 0;" + others);
      due("spots of the others", x.meets(2, 3, 2), others.startsWith(DOT) ? OVER : 1);
      Says.same("spots behind it", Says.spots(x), "1 1 0 1 0 1; 1 2 0 1 15 17; 1 2 15 17 0 1; 1 4 15 17 15 17; 1 1 0 1 31 32;"
          + " 1 2 15 17 31 32; 1 1 31 32 0 1; 1 2 31 32 15 17; 1 1 31 32 31 32");
      CurveMeetings y = told("a0 0 2 0 4 0 6 0;" + STANDING + others);
      due("spots of the others", y.meets(2, 3, 2), others.startsWith(DOT) ? OVER : 1);
      Says.same("one spot behind it", Says.spots(y), "1 1 0 1 0 1");
    }
  }

  private static void numbersOfSpots() {
    Says.terms("They are numbered by their first MEETING.");
    // 35/59 and 35/60 are one, although 32/63 comes between them.
    CurveMeetings x = told("a-1 3 -1 4 -4 0 -1 0;a-1 0 -3 0 -1 4 -1 3;");
    Says.same("another between two", Says.meetings(x), "35/59:0 32/63:1 35/60:0 63/32:2");
    Says.same("its spots", Says.spots(x), "2 2 3 4 27 29; 2 1 0 1 31 32; 2 1 31 32 0 1");
    // The same with crossings between.
    CurveMeetings y = told("a-5 0 2 -1 -2 -5 -1 -1;a-5 0 4 -1 -4 -5 -1 -1;");
    Says.same("crossings between", Says.meetings(y), "32/32:0 47/47:1 47/48:1 10/15:2 48/47:1 15/9:3 48/48:1 14/12:4 63/63:5");
    Says.same("its spots", Says.spots(y), "2 1 0 1 0 1; 1 4 15 17 15 17; 0 1 8 12 28 32; 0 1 28 32 4 8; 0 1 24 28 16 20; 1 1 31 32 31 32");
  }

  private static void kinds() {
    Says.terms("KIND: 0 a CROSSING;");
    due("kind of a crossing", told(LEVEL + UPRIGHT).spot(0, 1, 0, 0), 0);
    Says.terms("of DOUBTS 1: all have the same TURN, which is not 0;");
    Says.same("one, TURN 1", Says.spots(told("a-6 0 -4 0 -2 0 0 0;a0 0 0 2 0 4 0 6;")), "1 1 31 32 0 1");
    Says.same("one, TURN -1", Says.spots(told("a-6 0 -4 0 -2 0 0 0;a0 0 0 -2 0 -4 0 -6;")), "1 1 31 32 0 1");
    Says.same("one, TURN 0", Says.spots(told("a-6 0 -4 0 -2 0 0 0;a0 0 2 0 4 0 6 0;")), "2 1 31 32 0 1");
    Says.same("two, TURN 1", Says.spots(told(LEVEL + STANDING)), "1 2 15 17 0 1");
    Says.same("two, TURN -1", Says.spots(told(STANDING + LEVEL)), "1 2 0 1 15 17");
    turns("a3 4 6 2 6 4 2 8;a4 3 4 3 8 3 1 6;", "1 0", 2);
    turns("a-1 3 -1 4 -4 0 -1 0;a-1 0 -3 0 -1 4 -1 3;", "2 0 0 0", 2);
    turns("a4 1 2 5 -6 1 2 5;a6 1 1 4 2 2 2 3;", "1 0 2", 2);
    turns("a0 0 1 1 1 0 0 0;a0 -1 0 1 3 0 -1 1;", "0 1 0 2", 2);
    // It is ahead of how many there are: twelve, all of TURN -1.
    turns("a-8 -8 1 -9 -3 3 5 -2;a-7 -8 -6 -8 -6 -8 -6 -8;", "2 2 2 2 2 2 2 2 2 2 2 2", 1);
    Says.terms("else 2: fewer than 12 DOUBTS; else 3.");
    Says.same("eleven", Says.spots(told("a-4 -6 -1 -4 6 3 5 -3;a-3 -6 -1 -4 6 3 5 -3;")), "2 11 22 32 22 32");
    Says.same("twelve", Says.spots(told("a-3 6 -9 7 0 -5 5 6;a5 6 0 -5 -9 7 -5 6;")), "3 12 21 32 0 11");
    // They are counted spot by spot, not all of 74 together.
    Says.same("1, 19, 42, 11, 1", Says.spots(told("a-1 0 1 0 -2 0 -1 0;a-1 0 -4 0 1 0 -1 0;")),
        "2 1 0 1 0 1; 3 19 0 4 19 32; 3 42 14 32 17 32; 2 11 21 32 0 1; 2 1 31 32 31 32");
  }

  /** What turn() answers of all doubts, and the kind of the first spot. */
  private static void turns(String text, String turns, int kind) {
    CurveMeetings x = told(text);
    StringBuilder all = new StringBuilder();
    for (int k = 0; k < x.meets(0, 1, 1); k++) {
      all.append(k > 0 ? " " : "").append(x.turn(0, x.meeting(0, 1, k, 0), 1, x.meeting(0, 1, k, 1)));
    }
    Says.same("turns of " + text, all.toString(), turns);
    due("crossings of " + text, x.meets(0, 1, 0), 0);
    due("kind of " + text, x.spot(0, 1, 0, 0), kind);
  }

  // ---- 3

  /** Three arcs, one read text to come, two images, three to be undone, two seen. */
  private static CurveMeetings busy() {
    CurveMeetings x = Says.typed(new CurveMeetings(), LEVEL + UPRIGHT + "a-6 0-6 6 6 6 6 0;");
    x.arcs();
    x.keep(0);
    x.moves(0, 1, -3, 1);
    x.keep(1);
    x.shifts(1, 1, 0);
    x.reverses(2);
    x.sees(0, 1);
    x.sees(2, 1);
    return Says.typed(x, "a1-2 3-4 5-6 7-8;");
  }

  /** All rows are full: 130 letters, ten that may be undone, six that were seen. */
  private static CurveMeetings full() {
    CurveMeetings x = Says.typed(new CurveMeetings(), LEVEL + UPRIGHT);
    x.arcs();
    x.keep(0);
    for (int k = 0; k < 11; k++) x.moves(0, 0, -6, k - 5);
    for (int k = 0; k < 6; k++) x.sees(k % 2, 1 - k % 2);
    return Says.typed(x, "a1-2 3-4 5-6 7-8;" + " ".repeat(113));
  }

  private static void nothingChanges() {
    Says.terms("(Nothing is changed.)");
    Says.Maker busy = TermsBoundaryTest::busy;
    Says.changesNothing("point", busy, x -> x.point(0, 63, 3, 1), 0);
    Says.changesNothing("apart", busy, x -> x.apart(0, 1, 1, 1), 0);
    Says.changesNothing("turn", busy, x -> x.turn(0, 1, 1, 1), 3);
    Says.changesNothing("bends", busy, x -> x.bends(2, 1), 1);
    Says.changesNothing("goes", busy, x -> x.goes(1, 1, 0), 0);
    Says.changesNothing("area(0, 0)", busy, x -> x.area(0, 0), -3);
    Says.changesNothing("area(-1, 1)", busy, x -> x.area(-1, 1), 5);
    Says.changesNothing("meets", busy, x -> x.meets(0, 1, 2), 1);
    Says.changesNothing("meeting", busy, x -> x.meeting(0, 1, 0, 0), 1);
    Says.changesNothing("spot", busy, x -> x.spot(0, 1, 0, 0), 0);
    Says.changesNothing("busiest", busy, x -> x.busiest(0), 0);
    Says.changesNothing("unseen", busy, x -> x.unseen(), 2);
    for (int what = 0; what < 4; what++) {
      int k = what;
      Says.changesNothing("count(" + k + ")", busy, x -> x.count(k), new int[] {3, 2, 17, 3}[k]);
    }
  }

  private static void area() {
    Says.terms("AREA of an ARC: half the integral of x dy less y dx along it: by 20: 6 times CROSS of POINTS 0 and 1 (as steps),"
        + " 3 times of 0 and 2, once of 0 and 3, 3 times of 1 and 2, 3 times of 1 and 3, 6 times of 2 and 3, together.");
    int[] weights = {0, 6, 3, 1, 0, 0, 3, 3, 0, 0, 0, 6};
    for (int i = 0; i < 4; i++) {
      for (int j = i + 1; j < 4; j++) {
        int[] numbers = new int[8];
        numbers[2 * i] = 1;
        numbers[2 * j + 1] = 1;
        areaIs(item(numbers), weights[4 * i + j]);
        numbers[2 * j + 1] = -1;
        areaIs(item(numbers), -weights[4 * i + j]);
        numbers[2 * j + 1] = 0;
        areaIs(item(numbers), 0);
      }
    }
    areaIs(DOT, 0);
    // The greatest there is: around three sides of the whole square, 6 and 3 and 3 and 6 ... times 162.
    areaIs("a9 -9 9 9 -9 9 -9 -9;", 14 * 162);
    areaIs("a-9 -9 -9 9 9 9 9 -9;", -14 * 162);
  }

  private static String item(int[] numbers) {
    StringBuilder item = new StringBuilder("a");
    for (int number : numbers) item.append(number).append(' ');
    return item.append(';').toString();
  }

  /** 20ths: upper and lower number are in least terms, so each is told by the other. */
  private static void areaIs(String text, int parts) {
    CurveMeetings x = told(text);
    due("20ths of " + text, x.area(0, 0) * (20 / x.area(0, 1)), parts);
  }

  private static void bends() {
    Says.terms("BENDS of a NODE: CROSS of STEPS 0 and 1 and that of STEPS 1 and 2: 0 both are 0; 1 none is below 0 (not both 0);"
        + " 2 none is above 0; 3 else.");
    // STEPS (1, less a), (1, 0), (1, b): CROSSES a and b.
    int[][] due = {{2, 2, 3}, {2, 0, 1}, {3, 1, 1}};
    for (int a = -1; a <= 1; a++) {
      for (int b = -1; b <= 1; b++) {
        CurveMeetings x = told("a0 0 1 " + -a + " 2 " + -a + " 3 " + (b - a) + ";");
        due("CROSSES " + a + " and " + b, x.bends(0, 1), due[a + 1][b + 1]);
      }
    }
    due("a dot", told(DOT).bends(0, 1), 0);
    due("there and back", told("a0 0 3 0 -3 0 0 0;").bends(0, 1), 0);
    // The first one has CROSSES 1 and -1; of its pieces the first bends one way, the last the other way.
    CurveMeetings wave = told("a0 0 1 -1 2 -1 3 -2;");
    due("NODE 1", wave.bends(0, 1), 3);
    due("NODE 32", wave.bends(0, 32), 1);
    due("NODE 63", wave.bends(0, 63), 2);
  }

  private static void goes() {
    Says.terms("GOES of a NODE along x or y: 0 all its STEPS are 0 there; 1 none is below 0; 2 none is above 0; 3 else.");
    for (int k = 0; k < 27; k++) {
      int a = k % 3 - 1, b = k / 3 % 3 - 1, c = k / 9 - 1;
      boolean up = a > 0 || b > 0 || c > 0, down = a < 0 || b < 0 || c < 0;
      int want = up && down ? 3 : down ? 2 : up ? 1 : 0;
      int[] along = {0, a, a + b, a + b + c};
      CurveMeetings x = told("a0 0 " + along[1] + " 1 " + along[2] + " 2 " + along[3] + " 1;");
      String steps = "steps " + a + ", " + b + ", " + c;
      due("along x, " + steps, x.goes(0, 1, 0), want);
      due("along y", x.goes(0, 1, 1), 3);
      CurveMeetings y = told("a0 0 1 " + along[1] + " 2 " + along[2] + " 3 " + along[3] + ";");
      due("along y, " + steps, y.goes(0, 1, 1), want);
      due("along x", y.goes(0, 1, 0), 1);
    }
    // By one 32768th: the steps of this NODE 40 are -448, -216 and 1 along x, and along y the opposite of these.
    CurveMeetings least = told("a0 0 -5 5 1 -1 3 -3;");
    due("1 alone is above 0", least.goes(0, 40, 0), 3);
    due("-1 alone is below 0", least.goes(0, 40, 1), 3);
    // t to the power of 3, up to a 32nd: 0, 0 and 1 along x, and -1 along y.
    CurveMeetings one = told("a0 0 0 0 0 0 1 -1;");
    due("0, 0 and 1", one.goes(0, 32, 0), 1);
    due("0, 0 and -1", one.goes(0, 32, 1), 2);
  }

  private static void done() {
    Says.terms("DONE: MOVED: a POINT is another one;");
    CurveMeetings x = told("a1 2 3 4 5 6 7 8;" + DOT);
    due("moves(0, 0, -9, 9)", x.moves(0, 0, -9, 9), 1);
    Says.points(x, 0, -9, 9, 3, 4, 5, 6, 7, 8);
    due("moves(0, 3, 9, -9)", x.moves(0, 3, 9, -9), 1);
    Says.points(x, 0, -9, 9, 3, 4, 5, 6, 9, -9);
    Says.points(x, 1, 0, 0, 0, 0, 0, 0, 0, 0);
    Says.terms("SHIFTED: all POINTS of an ARC by as much;");
    CurveMeetings y = told("a-9 1 0 2 3 -3 4 4;" + DOT);
    due("shifts(0, 5, -6)", y.shifts(0, 5, -6), 1);
    Says.points(y, 0, -4, -5, 5, -4, 8, -9, 9, -2);
    Says.points(y, 1, 0, 0, 0, 0, 0, 0, 0, 0);
    Says.terms("REVERSED: POINTS in the other order.");
    CurveMeetings z = told("a1 2 3 4 5 6 7 8;" + DOT);
    due("reverses(0)", z.reverses(0), 1);
    Says.points(z, 0, 7, 8, 5, 6, 3, 4, 1, 2);
    due("reverses(0) again", z.reverses(0), 1);
    Says.points(z, 0, 1, 2, 3, 4, 5, 6, 7, 8);
    due("reverses(1), which stays as it is", z.reverses(1), 1);
    due("count(3)", z.count(3), 3);
  }

  private static void undone() {
    Says.terms("UNDONE: the latest moves(), shifts(), reverses() that was not refused");
    CurveMeetings x = told("a1 2 3 4 5 6 7 8;" + DOT);
    due("moves", x.moves(0, 0, 0, 0), 1);
    due("shifts", x.shifts(0, 1, 1), 1);
    due("reverses", x.reverses(0), 1);
    due("moves, refused", x.moves(0, 3, 1, 1), STATE);
    due("moves, refused", x.moves(0, 0, 10, 0), BAD);
    due("shifts, refused", x.shifts(0, 0, 0), STATE);
    due("shifts, refused", x.shifts(0, 9, 0), BAD);
    due("reverses, refused", x.reverses(2), BAD);
    due("count(3)", x.count(3), 3);
    Says.points(x, 0, 8, 9, 6, 7, 4, 5, 1, 1);
    due("undo()", x.undo(), 2);
    Says.points(x, 0, 1, 1, 4, 5, 6, 7, 8, 9);
    due("undo()", x.undo(), 1);
    Says.points(x, 0, 0, 0, 3, 4, 5, 6, 7, 8);
    due("undo()", x.undo(), 0);
    Says.points(x, 0, 1, 2, 3, 4, 5, 6, 7, 8);
    due("undo() of none", x.undo(), STATE);
    Says.terms("(10 are known, older ones are lost).");
    for (int done = 9; done <= 12; done++) {
      CurveMeetings y = told(DOT + DOT);
      for (int k = 1; k <= done; k++) {
        due("the " + k + "th", y.moves(k % 2, 1, k - 5, 1), 1);
        due("count(3)", y.count(3), Math.min(k, 10));
      }
      int known = Math.min(done, 10);
      for (int k = known - 1; k >= 0; k--) due("undo()", y.undo(), k);
      due("undo() behind the last known", y.undo(), STATE);
      // Of eleven the first is lost, which was of ARC 1; of twelve the second, too, which was of ARC 0.
      Says.points(y, 1, 0, 0, done > 10 ? -4 : 0, done > 10 ? 1 : 0, 0, 0, 0, 0);
      Says.points(y, 0, 0, 0, done > 11 ? -3 : 0, done > 11 ? 1 : 0, 0, 0, 0, 0);
    }
    CurveMeetings z = told(DOT);
    for (int k = 0; k < 40; k++) z.shifts(0, k % 2 == 0 ? 1 : -1, 0);
    due("count(3) of forty", z.count(3), 10);
    due("undo()", z.undo(), 9);
    due("shifts", z.shifts(0, -1, 0), 1);
    due("count(3)", z.count(3), 10);
  }

  private static void busiest() {
    Says.terms("BUSIEST: the two ARCS P below Q that have most SPOTS (OVER: 101 of them),");
    busiestIs(LEVEL + UPRIGHT + "a-6 0-6 6 6 6 6 0;", 0, 2, 2);
    busiestIs(LEVEL + "a-6 0-6 6 6 6 6 0;a9 9 9 9 9 9 9 9;a9 9 9 9 9 9 9 9;", 2, 3, 101);
    busiestIs(Says.OVER_HUNDRED + LEVEL, 0, 1, 101);
    busiestIs(Says.HUNDRED, 0, 1, 2);
    Says.terms("of several the lower P, then Q;");
    String[] far = {"a-9 9-9 9-9 9-9 9;", "a9 9 9 9 9 9 9 9;"};
    // Pairs of one spot each: those of LEVEL and of UPRIGHT and its neighbour, which do not meet.
    String beside = "a2-6 2-2 2 2 2 6;";
    busiestIs(LEVEL + UPRIGHT + beside + far[0], 0, 1, 1);
    busiestIs(LEVEL + far[0] + UPRIGHT + beside, 0, 2, 1);
    busiestIs(far[0] + LEVEL + UPRIGHT + beside, 1, 2, 1);
    busiestIs(UPRIGHT + beside + LEVEL + far[0], 0, 2, 1);
    busiestIs(UPRIGHT + beside + far[0] + LEVEL, 0, 3, 1);
    busiestIs(far[0] + UPRIGHT + beside + LEVEL, 1, 3, 1);
    busiestIs(far[0] + far[1] + UPRIGHT + LEVEL, 2, 3, 1);
    busiestIs(DOT + DOT + DOT + DOT, 0, 1, 101);
    busiestIs(far[0] + far[1] + UPRIGHT, 0, 1, 0);
    Says.terms("NONE: there are not two.");
    busiestIs("", NONE, NONE, NONE);
    busiestIs(LEVEL, NONE, NONE, NONE);
    busiestIs(far[0] + far[1], 0, 1, 0);
  }

  private static void busiestIs(String text, int p, int q, int spots) {
    CurveMeetings x = told(text);
    due("busiest(0) of " + text, x.busiest(0), p);
    due("busiest(1) of " + text, x.busiest(1), q);
    due("busiest(2) of " + text, x.busiest(2), spots);
  }

  private static void seen() {
    Says.terms("SEEN (6 at most):");
    CurveMeetings x = told(LEVEL + UPRIGHT);
    for (int k = 1; k <= 6; k++) due("sees(0, 1)", x.sees(0, 1), k);
    due("a seventh", x.sees(1, 1), FULL);
    due("count(1)", x.count(1), 6);
    due("the seventh is not SEEN", x.unseen(), 2);
    Says.terms("an unknown ARC has n SPOTS with ARC q (101: OVER; with itself: none).");
    String two = "a9 9 9 9 9 9 9 9;a9 9 9 9 9 9 9 9;";
    unseenIs(LEVEL + UPRIGHT + two, 0, 0, 13);
    unseenIs(LEVEL + UPRIGHT + two, 0, 1, 2);
    unseenIs(LEVEL + UPRIGHT + two, 1, 1, 1);
    unseenIs(LEVEL + UPRIGHT + two, 2, 101, 8);
    unseenIs(LEVEL + UPRIGHT + two, 3, 101, 4);
    unseenIs(LEVEL + UPRIGHT + two, 2, 100, 0);
    unseenIs(LEVEL + UPRIGHT + two, 2, 0, 7);
    unseenIs(DOT, 0, 0, 1);
    unseenIs(DOT, 0, 101, 0);
    unseenIs(Says.HUNDRED, 0, 101, 0);
    unseenIs(Says.HUNDRED, 0, 2, 2);
    unseenIs(Says.OVER_HUNDRED, 0, 101, 2);
  }

  private static void unseenIs(String text, int q, int n, int bits) {
    CurveMeetings x = told(text);
    due("sees(" + q + ", " + n + ")", x.sees(q, n), 1);
    due("unseen() of " + text + " by " + n + " with " + q, x.unseen(), bits);
  }

  private static void unseen() {
    Says.terms("UNSEEN: ARCS (bits) by which all that was SEEN is so.");
    due("no ARCS", new CurveMeetings().unseen(), 0);
    due("nothing SEEN of one", told(DOT).unseen(), 1);
    due("nothing SEEN of four", told(DOT + DOT + DOT + DOT).unseen(), 15);
    CurveMeetings x = told(LEVEL + UPRIGHT + "a9 9 9 9 9 9 9 9;a9 9 9 9 9 9 9 9;");
    int[][] all = {{0, 0}, {1, 0}, {2, 0}, {3, 101}, {2, 0}, {2, 101}};
    int[] bits = {13, 12, 4, 4, 4, 0};
    for (int k = 0; k < 6; k++) {
      x.sees(all[k][0], all[k][1]);
      due("unseen() by " + (k + 1), x.unseen(), bits[k]);
    }
    CurveMeetings six = told(LEVEL + UPRIGHT);
    for (int k = 0; k < 5; k++) six.sees(0, 1);
    due("five are so of ARC 1", six.unseen(), 2);
    six.sees(0, 0);
    due("the sixth is not", six.unseen(), 0);
    CurveMeetings first = told(LEVEL + UPRIGHT);
    first.sees(0, 0);
    for (int k = 0; k < 5; k++) first.sees(0, 1);
    due("the first is not", first.unseen(), 0);
  }

  private static void images() {
    Says.terms("IMAGES 0, 1 keep POINTS of all ARCS; nothing else (nothing can be UNDONE behind back()).");
    for (int image : new int[] {-1, 2, LOW, HIGH}) {
      due("keep(" + image + ")", told(DOT).keep(image), BAD);
      due("back(" + image + ")", told(DOT).back(image), BAD);
    }
    String four = "a1 2 3 4 5 6 7 8;a2 3 4 5 6 7 8 9;a3 4 5 6 7 8 9 0;a4 5 6 7 8 9 0 1;";
    CurveMeetings x = told(four);
    due("keep(0)", x.keep(0), 4);
    for (int arc = 0; arc < 4; arc++) x.reverses(arc);
    due("keep(1)", x.keep(1), 4);
    due("keep takes nothing away", x.count(3), 4);
    for (int arc = 0; arc < 4; arc++) x.moves(arc, 1, -9, -9);
    x.sees(0, 1);
    Says.typed(x, "abc");
    due("back(0)", x.back(0), 4);
    for (int arc = 0; arc < 4; arc++) {
      int a = arc + 1;
      Says.points(x, arc, a % 10, (a + 1) % 10, (a + 2) % 10, (a + 3) % 10, (a + 4) % 10, (a + 5) % 10, (a + 6) % 10, (a + 7) % 10);
    }
    due("nothing can be UNDONE", x.undo(), STATE);
    due("count(3)", x.count(3), 0);
    due("SEEN stays", x.count(1), 1);
    due("the letters stay", x.count(2), 3);
    due("reverses", x.reverses(0), 1);
    due("back(1)", x.back(1), 4);
    for (int arc = 0; arc < 4; arc++) {
      int a = arc + 1;
      Says.points(x, arc, (a + 6) % 10, (a + 7) % 10, (a + 4) % 10, (a + 5) % 10, (a + 2) % 10, (a + 3) % 10, a % 10, (a + 1) % 10);
    }
    due("nothing can be UNDONE", x.undo(), STATE);
  }

  private static void readAnew() {
    Says.terms("(Read anew: as told; nothing SEEN, IMAGES are gone.)");
    CurveMeetings x = busy();
    due("count(1)", x.count(1), 2);
    due("arcs()", x.arcs(), 1);
    Says.points(x, 0, 1, -2, 3, -4, 5, -6, 7, -8);
    due("count(0)", x.count(0), 1);
    due("count(1)", x.count(1), 0);
    due("count(2)", x.count(2), 0);
    due("unseen()", x.unseen(), 1);
    due("back(0)", x.back(0), STATE);
    due("back(1)", x.back(1), STATE);
    due("nothing can be UNDONE", x.undo(), STATE);
    for (int arc = 1; arc < 4; arc++) due("point of ARC " + arc, x.point(arc, 1, 0, 0), NO);
    // Of no letter, too: then there is nothing at all.
    CurveMeetings y = told(LEVEL + UPRIGHT);
    y.keep(0);
    y.sees(1, 1);
    y.reverses(0);
    due("arcs() of no letter", y.arcs(), 0);
    for (int what = 0; what < 4; what++) due("count(" + what + ")", y.count(what), 0);
    due("back(0)", y.back(0), STATE);
    due("undo()", y.undo(), STATE);
    due("point of ARC 0", y.point(0, 1, 0, 0), NO);
  }

  private static void refusedInOrder() {
    Says.terms("the first of these: BAD (a number is not as told, or there is no such thing), STATE (as told), FULL, then as told.");
    // BAD ahead of STATE.
    CurveMeetings x = told(LEVEL);
    due("moves of no ARC to where it is", x.moves(1, 0, -6, 0), BAD);
    due("shifts of no ARC by nothing", x.shifts(1, 0, 0), BAD);
    due("back to no IMAGE, none was kept", x.back(2), BAD);
    // BAD ahead of FULL.
    CurveMeetings full = full();
    due("type(256) at 130", full.type(256), BAD);
    due("type(-1) at 130", full.type(-1), BAD);
    due("type(255) at 130", full.type(255), FULL);
    due("sees(2, 1) at 6", full.sees(2, 1), BAD);
    due("sees(0, 102) at 6", full.sees(0, 102), BAD);
    due("sees(0, 101) at 6", full.sees(0, 101), FULL);
    // BAD ahead of OVER.
    CurveMeetings over = told(Says.OVER_HUNDRED);
    due("meets(0, 1, 3)", over.meets(0, 1, 3), BAD);
    due("meets(0, 2, 0)", over.meets(0, 2, 0), BAD);
    due("meets(0, 0, 0)", over.meets(0, 0, 0), BAD);
    due("meeting(0, 1, -1, 0)", over.meeting(0, 1, -1, 0), BAD);
    due("meeting(0, 1, 0, 3)", over.meeting(0, 1, 0, 3), BAD);
    due("spot(0, 1, -1, 0)", over.spot(0, 1, -1, 0), BAD);
    due("spot(0, 1, 0, 6)", over.spot(0, 1, 0, 6), BAD);
    // BAD ahead of NONE.
    CurveMeetings none = told(LEVEL + "a-6 1-2 1 2 1 6 1;");
    due("meeting(0, 1, 0, 3)", none.meeting(0, 1, 0, 3), BAD);
    due("meeting(0, 1, 0, -1)", none.meeting(0, 1, 0, -1), BAD);
    due("spot(0, 1, 0, 6)", none.spot(0, 1, 0, 6), BAD);
    due("spot(0, 1, 0, -1)", none.spot(0, 1, 0, -1), BAD);
    due("busiest(3) of no ARCS", new CurveMeetings().busiest(3), BAD);
    due("busiest(-1) of no ARCS", new CurveMeetings().busiest(-1), BAD);
  }

  private static void refusedChangesNothing() {
    Says.terms("Refused, and nothing changes,");
    Says.Maker busy = TermsBoundaryTest::busy, full = TermsBoundaryTest::full;
    for (int letter : new int[] {-1, 256}) {
      Says.changesNothing("type(" + letter + ")", busy, x -> x.type(letter), BAD);
      Says.changesNothing("type(" + letter + ")", full, x -> x.type(letter), BAD);
    }
    Says.changesNothing("type(97) at 130", full, x -> x.type('a'), FULL);
    Says.changesNothing("type(48) at 130", full, x -> x.type('0'), FULL);
    Says.changesNothing("arcs() with a fault", () -> Says.typed(busy(), "a1 2;"), x -> x.arcs(), -10 - 21);
    Says.changesNothing("arcs() with a fault in a number", () -> Says.typed(busy(), DOT + "a77"), x -> x.arcs(), -10 - 35);
    Says.changesNothing("arcs() too early", () -> Says.typed(busy(), DOT + "a1 2 3"), x -> x.arcs(), -10 - 40);
    Says.changesNothing("moves, BAD", busy, x -> x.moves(0, 0, 10, 0), BAD);
    Says.changesNothing("moves, BAD", busy, x -> x.moves(0, 4, 1, 0), BAD);
    Says.changesNothing("moves, BAD", busy, x -> x.moves(3, 0, 1, 0), BAD);
    Says.changesNothing("moves, BAD", full, x -> x.moves(0, 0, 0, -10), BAD);
    Says.changesNothing("moves, STATE", busy, x -> x.moves(0, 1, -3, 1), STATE);
    Says.changesNothing("moves, STATE", full, x -> x.moves(0, 3, 6, 0), STATE);
    Says.changesNothing("shifts, BAD", busy, x -> x.shifts(0, 4, 0), BAD);
    Says.changesNothing("shifts, BAD", busy, x -> x.shifts(1, 0, -4), BAD);
    Says.changesNothing("shifts, BAD", busy, x -> x.shifts(3, 1, 0), BAD);
    Says.changesNothing("shifts, STATE", busy, x -> x.shifts(1, 0, 0), STATE);
    Says.changesNothing("shifts, STATE", full, x -> x.shifts(1, 0, 0), STATE);
    Says.changesNothing("reverses, BAD", busy, x -> x.reverses(3), BAD);
    Says.changesNothing("reverses, BAD", full, x -> x.reverses(-1), BAD);
    Says.changesNothing("undo, STATE", () -> undoneAll(busy()), x -> x.undo(), STATE);
    Says.changesNothing("sees, BAD", busy, x -> x.sees(3, 1), BAD);
    Says.changesNothing("sees, BAD", busy, x -> x.sees(0, 102), BAD);
    Says.changesNothing("sees, BAD", busy, x -> x.sees(0, -1), BAD);
    Says.changesNothing("sees, FULL", full, x -> x.sees(0, 0), FULL);
    Says.changesNothing("keep, BAD", busy, x -> x.keep(2), BAD);
    Says.changesNothing("keep, BAD", full, x -> x.keep(-1), BAD);
    Says.changesNothing("back, BAD", busy, x -> x.back(2), BAD);
    Says.changesNothing("back, BAD", busy, x -> x.back(-1), BAD);
    Says.changesNothing("back, STATE", full, x -> x.back(1), STATE);
    Says.changesNothing("point, BAD", busy, x -> x.point(0, 64, 0, 0), NO);
    Says.changesNothing("area, BAD", busy, x -> x.area(-2, 0), NO);
    Says.changesNothing("meets, BAD", busy, x -> x.meets(1, 1, 0), BAD);
    Says.changesNothing("meeting, NONE", busy, x -> x.meeting(0, 1, 100, 0), NONE);
    Says.changesNothing("spot, NONE", busy, x -> x.spot(0, 1, 100, 0), NONE);
    Says.changesNothing("busiest, BAD", busy, x -> x.busiest(3), BAD);
    Says.changesNothing("count, BAD", busy, x -> x.count(4), BAD);
    Says.Maker dots = () -> Says.typed(told(DOT + DOT), DOT);
    Says.changesNothing("meets, OVER", dots, x -> x.meets(0, 1, 0), OVER);
    Says.changesNothing("meeting, OVER", dots, x -> x.meeting(0, 1, 0, 0), OVER);
    Says.changesNothing("spot, OVER", dots, x -> x.spot(0, 1, 0, 0), OVER);
  }

  private static CurveMeetings undoneAll(CurveMeetings x) {
    for (int k = 0; k < 3; k++) x.undo();
    return x;
  }

  private static void no() {
    Says.terms("The constants: `NO = -2147483647`: What is BAD where a number may be below 0.");
    due("NO", CurveMeetings.NO, -2147483647);
    CurveMeetings x = told("a-1 -1 -1 -1 -1 -1 -1 -1;");
    due("a coordinate as BAD is, in 32768ths far below", x.point(0, 1, 0, 0), -32768);
    due("point of no ARC", x.point(1, 1, 0, 0), NO);
    due("area of no ARC", x.area(1, 0), NO);
    // One 20th below 0: its upper number is -1, and not BAD.
    due("an area of -1 by 20", told("a1 0 0 0 0 0 0 -1;").area(0, 0), -1);
    // One 32768th below 0 is -1, and not BAD.
    due("a coordinate of -1", told("a0 0 0 0 0 0 0 -1;").point(0, 32, 3, 1), -1);
  }
}
