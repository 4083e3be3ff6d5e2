/** Every promise by cases worked out by hand; the few whose answers are the Model's say so. */
public final class PromisesTest {
  private static final int BAD = -1, STATE = -2, FULL = -3, OVER = -4, NONE = -9, NO = -2147483647;
  private static final int LOW = Integer.MIN_VALUE, HIGH = Integer.MAX_VALUE;

  /** Evenly along y = 0 from -6 to 6, and along x = 0 likewise: they cross at the middle. */
  private static final String LEVEL = "a-6 0 -2 0 2 0 6 0;";
  private static final String UPRIGHT = "a0 -6 0 -2 0 2 0 6;";
  /** From the origin up: begins on the middle of LEVEL. */
  private static final String STANDING = "a0 0 0 2 0 4 0 6;";

  private static int wrong = 0;
  private static int checks = 0;
  private static String promise = "";

  private static void due(String call, int got, int want) {
    checks++;
    if (got != want) {
      wrong++;
      System.out.println("promise " + promise + ": " + call + " answered " + got + ", due is " + want);
    }
  }

  private static CurveMeetings typed(CurveMeetings x, String text) {
    for (char letter : text.toCharArray()) x.type(letter);
    return x;
  }

  private static CurveMeetings told(String text) {
    CurveMeetings x = typed(new CurveMeetings(), text);
    int items = 0;
    for (char letter : text.toCharArray()) if (letter == ';') items++;
    due("arcs() of " + text, x.arcs(), items);
    return x;
  }

  public static void main(String[] args) {
    newObject();
    type();
    clear();
    goodTexts();
    faults();
    readAnew();
    point();
    moves();
    shifts();
    reverses();
    undo();
    apart();
    turn();
    bends();
    goes();
    area();
    meets();
    overs();
    meeting();
    spot();
    kinds();
    busiest();
    sees();
    forget();
    unseen();
    keep();
    back();
    count();
    System.out.println(checks + " answers, " + wrong + " not as due");
    if (wrong != 0) System.exit(1);
  }

  private static void newObject() {
    promise = "1";
    CurveMeetings x = new CurveMeetings();
    for (int what = 0; what < 4; what++) due("count(" + what + ")", x.count(what), 0);
    due("point", x.point(0, 1, 0, 0), NO);
    due("moves", x.moves(0, 0, 1, 1), BAD);
    due("shifts", x.shifts(0, 1, 1), BAD);
    due("reverses", x.reverses(0), BAD);
    due("undo", x.undo(), STATE);
    due("apart", x.apart(0, 1, 1, 1), BAD);
    due("turn", x.turn(0, 1, 1, 1), BAD);
    due("bends", x.bends(0, 1), BAD);
    due("goes", x.goes(0, 1, 0), BAD);
    due("area(0)", x.area(0, 0), NO);
    due("area(-1, 0)", x.area(-1, 0), 0);
    due("area(-1, 1)", x.area(-1, 1), 1);
    due("meets", x.meets(0, 1, 0), BAD);
    due("meeting", x.meeting(0, 1, 0, 0), BAD);
    due("spot", x.spot(0, 1, 0, 0), BAD);
    due("busiest", x.busiest(0), NONE);
    due("sees", x.sees(0, 0), BAD);
    due("forget", x.forget(), 0);
    due("unseen", x.unseen(), 0);
    due("back", x.back(0), STATE);
    due("keep", x.keep(0), 0);
    due("back", x.back(0), 0);
    due("clear", x.clear(), 0);
    due("arcs", x.arcs(), 0);
    CurveMeetings one = told(LEVEL);
    due("count(0) of one object", one.count(0), 1);
    due("count(0) of another", new CurveMeetings().count(0), 0);
  }

  private static void type() {
    promise = "2";
    CurveMeetings x = new CurveMeetings();
    due("type(0)", x.type(0), 1);
    due("type(255)", x.type(255), 2);
    due("type(-1)", x.type(-1), BAD);
    due("type(256)", x.type(256), BAD);
    due("type(LOW)", x.type(LOW), BAD);
    due("type(HIGH)", x.type(HIGH), BAD);
    due("count(2)", x.count(2), 2);
    for (int k = 3; k <= 130; k++) due("type(32)", x.type(32), k);
    due("type(32) at 130", x.type(32), FULL);
    due("type(256) at 130", x.type(256), BAD);
    due("count(2)", x.count(2), 130);
    due("clear()", x.clear(), 130);
    due("type(97)", x.type(97), 1);
  }

  private static void clear() {
    promise = "3";
    CurveMeetings x = told(LEVEL);
    due("clear()", x.clear(), 0);
    typed(x, "abc");
    due("clear()", x.clear(), 3);
    due("clear()", x.clear(), 0);
    due("count(0)", x.count(0), 1);
    due("arcs()", typed(x, UPRIGHT).arcs(), 1);
    due("point", x.point(0, 1, 0, 1), -6 * 32768);
  }

  private static void goodTexts() {
    promise = "4";
    due("no letters", new CurveMeetings().arcs(), 0);
    due("blanks", typed(new CurveMeetings(), "   ").arcs(), 0);
    numbersAre("a1 2 3 4 5 6 7 8;", 1, 2, 3, 4, 5, 6, 7, 8);
    numbersAre("a-1-2-3-4-5-6-7-8;", -1, -2, -3, -4, -5, -6, -7, -8);
    numbersAre("  a  9 - 9 0 -  0 -0 1   2 3  ;  ", 9, -9, 0, 0, 0, 1, 2, 3);
    numbersAre("a 1 -2 3-4 5 6 7 8 ;", 1, -2, 3, -4, 5, 6, 7, 8);
    StringBuilder four = new StringBuilder();
    for (int k = 0; k < 4; k++) four.append("a").append(k).append(" 0 0 0 0 0 0 0;");
    CurveMeetings x = told(four.toString());
    for (int k = 0; k < 4; k++) due("point of " + k, x.point(k, 1, 0, 0), k * 32768);
    due("a fifth a", typed(new CurveMeetings(), four + "  a").arcs(), -10 - 70);
    due("a fifth item", typed(new CurveMeetings(), four + LEVEL).arcs(), -10 - 68);
    // As long as a text can be.
    String longest = "a 1 2 3 4 5 6 7 8 ;".repeat(4);
    due("130 letters", typed(new CurveMeetings(), longest + " ".repeat(130 - longest.length())).arcs(), 4);
  }

  private static void numbersAre(String text, int... numbers) {
    CurveMeetings x = told(text);
    for (int k = 0; k < 8; k++) {
      due("number " + k + " of " + text, x.point(0, 1, k / 2, k % 2), numbers[k] * 32768);
    }
  }

  private static void faults() {
    fault("b", 0);
    fault(" b", 1);
    fault("A", 0);
    fault(";", 0);
    fault("1", 0);
    fault("12", 0);
    fault("-", 0);
    fault("a", 1);
    fault("a   ", 4);
    fault("aa", 1);
    fault("a;", 1);
    fault("a00", 1);
    fault("a09", 1);
    fault("a10", 1);
    fault("a 99999999999999", 2);
    fault("a - 10", 4);
    fault("a--", 2);
    fault("a- -1", 3);
    fault("a-", 2);
    fault("a-;", 2);
    fault("a-a", 2);
    fault("a1x", 2);
    fault("a1a", 2);
    fault("a1\t2", 2);
    fault("a1\u00002", 2);
    fault("a1\u00e92", 2);
    fault("a1 2 3 4 5 6 7 8", 16);
    fault("a1 2 3 4 5 6 7 8  ", 18);
    fault("a1 2 3 4 5 6 7;", 14);
    fault("a1 2 3 4 5 6 7 -;", 16);
    fault("a1 2 3 4 5 6 7 8 -;", 17);
    fault("a1 2 3 4 5 6 7 8 9;", 17);
    fault("a1 2 3 4 5 6 7 8 99;", 17);
    fault("a1 2 3 4 5 6 7 8 a", 17);
    fault("a1 2 3 4 5 6 7 8;;", 17);
    fault("a1 2 3 4 5 6 7 8; 1", 18);
    fault("a1 2 3 4 5 6 7 8; -", 18);
    fault("a1 2 3 4 5 6 7 8;a1 2 3 4 5 6 7;", 31);
    fault("a10 b", 1);
    fault("a1 b 10", 3);
  }

  private static void fault(String text, int place) {
    CurveMeetings x = told(LEVEL);
    x.sees(0, 1);
    x.keep(1);
    x.reverses(0);
    typed(x, text);
    due("arcs() of " + text, x.arcs(), -10 - place);
    due("arcs() again", x.arcs(), -10 - place);
    due("count(0)", x.count(0), 1);
    due("count(1)", x.count(1), 1);
    due("count(2)", x.count(2), text.length());
    due("count(3)", x.count(3), 1);
    due("point", x.point(0, 1, 0, 0), 6 * 32768);
    due("back(1)", x.back(1), 1);
  }

  private static void readAnew() {
    CurveMeetings x = told(LEVEL + UPRIGHT);
    x.sees(0, 1);
    x.reverses(0);
    x.keep(0);
    x.keep(1);
    typed(x, STANDING.substring(0, STANDING.length() - 1));
    due("arcs() too early", x.arcs(), -10 - (STANDING.length() - 1));
    x.type(';');
    due("arcs() mended", x.arcs(), 1);
    due("count(0)", x.count(0), 1);
    due("count(1)", x.count(1), 0);
    due("count(2)", x.count(2), 0);
    due("count(3)", x.count(3), 0);
    due("undo()", x.undo(), STATE);
    due("back(0)", x.back(0), STATE);
    due("back(1)", x.back(1), STATE);
    due("point of an arc that is gone", x.point(1, 1, 0, 0), NO);
    due("point", x.point(0, 1, 3, 1), 6 * 32768);
    due("arcs() of nothing", x.arcs(), 0);
    due("count(0)", x.count(0), 0);
    // What was found out of the old arcs is not told of the new ones.
    CurveMeetings y = told(LEVEL + UPRIGHT);
    due("meets", y.meets(0, 1, 2), 1);
    due("busiest", y.busiest(2), 1);
    due("arcs()", typed(y, LEVEL + "a-6 1 -2 1 2 1 6 1;").arcs(), 2);
    due("busiest", y.busiest(2), 0);
    due("meets", y.meets(0, 1, 2), 0);
  }

  private static void point() {
    promise = "5";
    // x is 9 t; y halves to 0, 0, 3/4, 9/4 and 9/4, 15/4, 6, 9.
    CurveMeetings x = told("a0 0 3 0 6 3 9 9;");
    int[] left = {0, 0, 24576, 73728};
    int[] right = {73728, 122880, 196608, 294912};
    for (int i = 0; i < 4; i++) {
      due("point(0, 2, " + i + ", 1)", x.point(0, 2, i, 1), left[i]);
      due("point(0, 3, " + i + ", 1)", x.point(0, 3, i, 1), right[i]);
      for (int node = 32; node < 64; node++) {
        due("point(0, " + node + ", " + i + ", 0)", x.point(0, node, i, 0), 9216 * (node - 32) + 3072 * i);
      }
    }
    // y is 9 t t: at k 32nds it is k times k times 9 by 1024, which is 288 32768ths.
    due("the end of 32", x.point(0, 32, 3, 1), 288);
    due("the beginning of 63", x.point(0, 63, 0, 1), 288 * 31 * 31);
    due("the end of 63", x.point(0, 63, 3, 1), 294912);
    // One 32768th: t to the power of 3 at the first 32nd.
    CurveMeetings y = told("a0 0 0 0 0 0 1 -1;");
    due("least x", y.point(0, 32, 3, 0), 1);
    due("least y", y.point(0, 32, 3, 1), -1);
    due("farthest", told("a0 0 0 0 0 0 -9 9;").point(0, 1, 3, 0), -294912);
    int[][] bad = {{-1, 1, 0, 0}, {1, 1, 0, 0}, {0, 0, 0, 0}, {0, 64, 0, 0}, {0, -1, 0, 0}, {0, 1, -1, 0},
        {0, 1, 4, 0}, {0, 1, 0, -1}, {0, 1, 0, 2}, {LOW, 1, 0, 0}, {0, HIGH, 0, 0}, {0, 1, HIGH, 0}, {0, 1, 0, LOW}};
    for (int[] b : bad) due("point, bad", x.point(b[0], b[1], b[2], b[3]), NO);
  }

  private static void moves() {
    promise = "6";
    CurveMeetings x = told(LEVEL);
    due("moves", x.moves(0, 1, -2, 9), 1);
    due("y", x.point(0, 1, 1, 1), 9 * 32768);
    due("x", x.point(0, 1, 1, 0), -2 * 32768);
    // 3 of the 8 parts of the middle are point 1.
    due("the middle", x.point(0, 3, 0, 1), 9 * 32768 * 3 / 8);
    due("again", x.moves(0, 1, -2, 9), STATE);
    due("x alone", x.moves(0, 1, -9, 9), 1);
    due("y alone", x.moves(0, 1, -9, -9), 1);
    due("point 3", x.moves(0, 3, 9, 9), 1);
    due("count(3)", x.count(3), 4);
    int[][] bad = {{-1, 0, 0, 0}, {1, 0, 0, 0}, {0, -1, 0, 0}, {0, 4, 0, 0}, {0, 0, 10, 0}, {0, 0, -10, 0},
        {0, 0, 0, 10}, {0, 0, 0, -10}, {LOW, HIGH, LOW, HIGH}, {0, 0, LOW, 0}, {0, 0, 0, HIGH}};
    for (int[] b : bad) due("moves, bad", x.moves(b[0], b[1], b[2], b[3]), BAD);
    due("count(3)", x.count(3), 4);
    due("point 0", x.point(0, 1, 0, 0), -6 * 32768);
  }

  private static void shifts() {
    promise = "7";
    CurveMeetings x = told(LEVEL + UPRIGHT);
    due("point 0 alone beyond", x.shifts(0, -4, 0), BAD);
    due("point 3 alone beyond", x.shifts(1, 0, 4), BAD);
    due("shifts(0, 3, -9)", x.shifts(0, 3, -9), 1);
    due("x of 0", x.point(0, 1, 0, 0), -3 * 32768);
    due("x of 3", x.point(0, 1, 3, 0), 9 * 32768);
    due("y of 0", x.point(0, 1, 0, 1), -9 * 32768);
    due("y of the middle", x.point(0, 3, 0, 1), -9 * 32768);
    due("the other arc", x.point(1, 1, 0, 1), -6 * 32768);
    due("beyond x", x.shifts(0, 1, 0), BAD);
    due("beyond y", x.shifts(0, 0, -1), BAD);
    due("beyond by much", x.shifts(0, LOW, 0), BAD);
    due("beyond by much", x.shifts(0, 0, HIGH), BAD);
    due("beyond by much", x.shifts(0, HIGH, LOW), BAD);
    due("nowhere", x.shifts(0, 0, 0), STATE);
    due("no arc", x.shifts(2, 0, 0), BAD);
    due("no arc", x.shifts(-1, 0, 0), BAD);
    due("far", x.shifts(0, -6, 18), 1);
    due("x of 0", x.point(0, 1, 0, 0), -9 * 32768);
    due("count(3)", x.count(3), 2);
  }

  private static void reverses() {
    promise = "8";
    CurveMeetings x = told("a1 2 3 4 5 6 7 8;");
    due("reverses(0)", x.reverses(0), 1);
    int[] numbers = {7, 8, 5, 6, 3, 4, 1, 2};
    for (int k = 0; k < 8; k++) due("number " + k, x.point(0, 1, k / 2, k % 2), numbers[k] * 32768);
    due("the beginning of 2", x.point(0, 2, 0, 0), 7 * 32768);
    due("reverses(1)", x.reverses(1), BAD);
    due("reverses(-1)", x.reverses(-1), BAD);
    due("reverses(LOW)", x.reverses(LOW), BAD);
    due("count(3)", x.count(3), 1);
    // Done too where it changes nothing.
    CurveMeetings dot = told("a0 0 0 0 0 0 0 0;");
    due("reverses(0)", dot.reverses(0), 1);
    due("count(3)", dot.count(3), 1);
  }

  private static void undo() {
    promise = "9";
    CurveMeetings x = told(LEVEL + UPRIGHT);
    due("undo()", x.undo(), STATE);
    x.moves(0, 0, 1, 1);
    x.shifts(1, 1, 0);
    x.reverses(0);
    due("refused", x.moves(0, 0, 6, 0), STATE);
    due("refused", x.reverses(7), BAD);
    due("undo()", x.undo(), 2);
    due("x of 0", x.point(0, 1, 0, 0), 32768);
    due("undo()", x.undo(), 1);
    due("x of the other", x.point(1, 1, 0, 0), 0);
    due("undo()", x.undo(), 0);
    due("x of 0", x.point(0, 1, 0, 0), -6 * 32768);
    due("y of 0", x.point(0, 1, 0, 1), 0);
    due("the middle of it", x.point(0, 3, 0, 1), 0);
    due("undo()", x.undo(), STATE);
    // Twelve are done, ten are known.
    for (int k = 1; k <= 12; k++) {
      due("moves", x.moves(k % 3 == 0 ? 1 : 0, 0, -9, k - 4), 1);
      due("count(3)", x.count(3), Math.min(k, 10));
    }
    for (int k = 9; k >= 0; k--) due("undo()", x.undo(), k);
    due("undo()", x.undo(), STATE);
    due("the second stays", x.point(0, 1, 0, 1), -2 * 32768);
    due("the other is as it was", x.point(1, 1, 0, 0), 0);
    due("the other is as it was", x.point(1, 1, 0, 1), -6 * 32768);
    // It is told of the arcs as they are.
    CurveMeetings y = told(LEVEL + UPRIGHT);
    y.shifts(1, 9, 0);
    due("meets", y.meets(0, 1, 2), 0);
    due("undo()", y.undo(), 0);
    due("meets", y.meets(0, 1, 2), 1);
  }

  private static void apart() {
    promise = "10";
    CurveMeetings x = told(LEVEL + "a7 0 7 1 8 2 9 3;" + "a-6 1 0 1 0 2 6 2;" + STANDING);
    due("by x", x.apart(0, 1, 1, 1), 1);
    due("by x", x.apart(1, 1, 0, 1), 1);
    due("by y", x.apart(0, 1, 2, 1), 1);
    due("by y", x.apart(2, 1, 0, 1), 1);
    due("on it", x.apart(0, 1, 3, 1), 0);
    due("the left half ends there", x.apart(0, 2, 3, 2), 0);
    due("the left quarter", x.apart(0, 4, 3, 1), 1);
    // Beside a slope: side by it is 12 times (y less x): 3, 4, 3, 4 times that.
    CurveMeetings slope = told("a-6 -6 -2 -2 2 2 6 6;a-3 0 -3 1 -2 1 -2 2;");
    due("m clears n", slope.apart(0, 1, 1, 1), 2);
    due("n clears m", slope.apart(1, 1, 0, 1), 3);
    slope.reverses(0);
    due("below it now", slope.apart(0, 1, 1, 1), 2);
    due("n clears m", slope.apart(1, 1, 0, 1), 3);
    due("one on it", slope.moves(1, 1, 1, 1), 1);
    due("not clear", slope.apart(0, 1, 1, 1), 0);
    due("both sides", slope.moves(1, 1, 3, 1), 1);
    due("not clear", slope.apart(0, 1, 1, 1), 0);
    // The band of a hump is from 0 to 24; y = 2 is at 24, which is not above it.
    CurveMeetings hump = told("a-6 0 -2 2 2 2 6 0;a-6 2 -2 2 2 2 6 2;");
    due("at the band's edge", hump.apart(0, 1, 1, 1), 0);
    due("at the band's edge", hump.apart(1, 1, 0, 1), 0);
    due("the halves are below it", hump.apart(0, 2, 1, 2), 1);
    // Ends in one place: every side is 0, so nothing is cleared.
    CurveMeetings loop = told("a0 0 6 0 0 6 0 0;a4 4 4 4 4 4 4 4;");
    due("a dot in the box of a loop", loop.apart(0, 1, 1, 1), 0);
    badPairs("apart", (a, m, b, n) -> told(LEVEL + UPRIGHT).apart(a, m, b, n));
  }

  private interface Pair {
    int call(int p, int m, int q, int n);
  }

  private static void badPairs(String name, Pair pair) {
    int[][] bad = {{0, 1, 0, 1}, {1, 1, 1, 2}, {-1, 1, 0, 1}, {2, 1, 0, 1}, {0, 1, -1, 1}, {0, 1, 2, 1}, {0, 0, 1, 1},
        {0, 64, 1, 1}, {0, 1, 1, 0}, {0, 1, 1, 64}, {0, -5, 1, 1}, {LOW, 1, HIGH, 1}, {0, LOW, 1, 1}, {0, 1, 1, HIGH}};
    for (int[] b : bad) due(name + ", bad", pair.call(b[0], b[1], b[2], b[3]), BAD);
  }

  private static void turn() {
    promise = "11";
    CurveMeetings x = told(LEVEL + UPRIGHT + STANDING);
    due("crossed", x.turn(0, 1, 1, 1), 3);
    due("crossed", x.turn(1, 1, 0, 1), 4);
    due("begins on it", x.turn(0, 1, 2, 1), 1);
    due("begins on it", x.turn(2, 1, 0, 1), 2);
    due("halves touch in a corner", x.turn(0, 2, 1, 2), 1);
    due("one way", x.turn(1, 1, 2, 1), 0);
    due("reverses", x.reverses(1), 1);
    due("crossed", x.turn(0, 1, 1, 1), 4);
    due("crossed", x.turn(1, 1, 0, 1), 3);
    // One step of nothing makes one cross 0.
    due("moves", x.moves(0, 1, -6, 0), 1);
    due("a step of nothing", x.turn(0, 1, 1, 1), 0);
    // Turned, and the ends of the one beside the other, whose ends are not beside the one.
    CurveMeetings half = told(STANDING + LEVEL);
    due("crossed from one side alone", half.turn(0, 1, 1, 1), 2);
    // The ends of n are at 0 and 0 by m: between, a band from -24 to 24.
    CurveMeetings wave = told("a-6 0 -2 2 2 -2 6 0;a0 -1 0 0 0 1 0 2;");
    due("an end within the band", wave.turn(0, 1, 1, 1), 1);
    due("moves", wave.moves(1, 0, 0, -2), 1);
    due("an end at the band's edge", wave.turn(0, 1, 1, 1), 1);
    due("shifts", wave.shifts(1, 0, -1), 1);
    due("other end within", wave.turn(0, 1, 1, 1), 1);
    due("moves", wave.moves(1, 3, 0, 3), 1);
    due("ends beside the band", wave.turn(0, 1, 1, 1), 3);
    badPairs("turn", (a, m, b, n) -> told(LEVEL + UPRIGHT).turn(a, m, b, n));
  }

  private static void bends() {
    promise = "12";
    CurveMeetings x = told("a-3 -3 -1 -1 1 1 3 3;a0 0 3 0 3 3 0 3;a0 0 1 0 2 0 3 1;a0 0 1 2 2 -2 3 0;");
    due("straight", x.bends(0, 1), 0);
    due("straight, deep", x.bends(0, 45), 0);
    due("to the left", x.bends(1, 1), 1);
    due("straight, then to the left", x.bends(2, 1), 1);
    due("both", x.bends(3, 1), 3);
    due("its left half", x.bends(3, 2), 2);
    due("its right half", x.bends(3, 3), 1);
    x.reverses(1);
    x.reverses(2);
    due("to the right", x.bends(1, 1), 2);
    due("to the right, then straight", x.bends(2, 1), 2);
    due("a dot", told("a5 5 5 5 5 5 5 5;").bends(0, 63), 0);
    int[][] bad = {{4, 1}, {-1, 1}, {0, 0}, {0, 64}, {LOW, 1}, {0, HIGH}};
    for (int[] b : bad) due("bends, bad", x.bends(b[0], b[1]), BAD);
  }

  private static void goes() {
    promise = "13";
    CurveMeetings x = told("a0 5 1 5 1 5 2 5;a0 0 3 1 2 -1 0 -1;a0 0 -1 0 1 1 0 -2;");
    due("back, on, back", x.goes(2, 1, 0), 3);
    due("not, on, back", x.goes(2, 1, 1), 3);
    due("onward", x.goes(0, 1, 0), 1);
    due("not at all", x.goes(0, 1, 1), 0);
    due("to and fro", x.goes(1, 1, 0), 3);
    due("to and fro", x.goes(1, 1, 1), 3);
    due("its beginning", x.goes(1, 32, 0), 1);
    due("its end", x.goes(1, 63, 0), 2);
    x.reverses(0);
    due("backward", x.goes(0, 1, 0), 2);
    int[][] bad = {{3, 1, 0}, {-1, 1, 0}, {0, 0, 0}, {0, 64, 0}, {0, 1, -1}, {0, 1, 2}, {HIGH, LOW, LOW}};
    for (int[] b : bad) due("goes, bad", x.goes(b[0], b[1], b[2]), BAD);
  }

  private static void area() {
    promise = "14";
    // 108 by 20; a triangle of 3 by 2; along a line through the origin 0.
    CurveMeetings x = told("a0 0 3 0 3 3 0 3;a1 0 1 1 1 2 1 3;" + LEVEL);
    areaIs(x, 0, 27, 5);
    areaIs(x, 1, 3, 2);
    areaIs(x, 2, 0, 1);
    areaIs(x, -1, 69, 10);
    x.reverses(1);
    areaIs(x, 1, -3, 2);
    areaIs(x, -1, 39, 10);
    // Each cross alone: 6, 3, 1, 3, 3, 6 of 20.
    areaIs(told("a1 0 0 1 0 0 0 0;"), 0, 3, 10);
    areaIs(told("a1 0 0 0 0 1 0 0;"), 0, 3, 20);
    areaIs(told("a1 0 0 0 0 0 0 1;"), 0, 1, 20);
    areaIs(told("a0 0 1 0 0 1 0 0;"), 0, 3, 20);
    areaIs(told("a0 0 1 0 0 0 0 1;"), 0, 3, 20);
    areaIs(told("a0 0 0 0 1 0 0 1;"), 0, 3, 10);
    areaIs(told("a2 0 0 -5 0 0 0 0;"), 0, -3, 1);
    areaIs(told("a9 -9 9 9 -9 9 -9 -9;"), 0, 567, 5);
    int[][] bad = {{-2, 0}, {3, 0}, {0, -1}, {0, 2}, {-1, 2}, {-1, -1}, {LOW, 0}, {HIGH, 0}, {0, LOW}};
    for (int[] b : bad) due("area, bad", x.area(b[0], b[1]), NO);
  }

  private static void areaIs(CurveMeetings x, int arc, int upper, int lower) {
    due("area(" + arc + ", 0)", x.area(arc, 0), upper);
    due("area(" + arc + ", 1)", x.area(arc, 1), lower);
  }

  private static void meetsAre(CurveMeetings x, int crossings, int doubts, int spots) {
    for (int turned = 0; turned < 2; turned++) {
      due("crossings", x.meets(turned, 1 - turned, 0), crossings);
      due("doubts", x.meets(turned, 1 - turned, 1), doubts);
      due("spots", x.meets(turned, 1 - turned, 2), spots);
    }
  }

  private static void meets() {
    promise = "15";
    meetsAre(told(LEVEL + UPRIGHT), 1, 0, 1);
    meetsAre(told(LEVEL + STANDING), 0, 2, 1);
    meetsAre(told("a-6 0 -4 0 -2 0 0 0;" + STANDING), 0, 1, 1);
    meetsAre(told(LEVEL + "a-6 1 -2 1 2 1 6 1;"), 0, 0, 0);
    // One line twice: each 32nd with itself and its neighbours.
    meetsAre(told(LEVEL + LEVEL), 0, 94, 1);
    // The second begins 16 by 3 times 5 32nds behind: 27 or 26 between those that overlap.
    meetsAre(told("a-6 0 -4 0 -2 0 0 0;a-1 0 1 0 3 0 5 0;"), 0, 11, 1);
    CurveMeetings x = told(LEVEL + UPRIGHT);
    int[][] bad = {{0, 0, 0}, {1, 1, 0}, {-1, 0, 0}, {2, 0, 0}, {0, -1, 0}, {0, 2, 0}, {0, 1, -1}, {0, 1, 3},
        {LOW, HIGH, 0}, {0, 1, LOW}, {0, 1, HIGH}};
    for (int[] b : bad) due("meets, bad", x.meets(b[0], b[1], b[2]), BAD);
    // It follows what is done.
    due("shifts", x.shifts(1, 9, 0), 1);
    due("meets", x.meets(0, 1, 2), 0);
    due("undo", x.undo(), 0);
    due("meets", x.meets(0, 1, 2), 1);
    due("moves", x.moves(0, 3, 6, 9), 1);
    due("reverses", x.reverses(0), 1);
    due("meets", x.meets(0, 1, 2), 1);
  }

  private static void overs() {
    // These have 100 and 101 meetings by the Model.
    CurveMeetings hundred = told("a-1 1 -2 2 0 0 -2 2;a-2 2 -2 2 0 0 -2 2;");
    due("crossings and doubts", hundred.meets(0, 1, 0) + hundred.meets(0, 1, 1), 100);
    due("the last", hundred.meeting(0, 1, 99, 0) >= 32 ? 1 : 0, 1);
    due("behind it", hundred.meeting(0, 1, 100, 0), NONE);
    CurveMeetings more = told("a-2 1 -2 -4 -2 -1 -2 -2;a-2 0 -2 -4 -2 0 -2 -2;");
    for (int what = 0; what < 3; what++) {
      due("meets of 101", more.meets(0, 1, what), OVER);
      due("meeting of 101", more.meeting(0, 1, 0, what), OVER);
    }
    for (int what = 0; what < 6; what++) due("spot of 101", more.spot(0, 1, 0, what), OVER);
    due("meeting far behind", more.meeting(0, 1, 1000, 0), OVER);
    due("spot far behind", more.spot(0, 1, 1000, 0), OVER);
    due("bad ahead of over", more.meets(0, 1, 3), BAD);
    due("bad ahead of over", more.meeting(0, 1, -1, 0), BAD);
    due("bad ahead of over", more.spot(0, 1, 0, 6), BAD);
    due("busiest", more.busiest(2), 101);
    due("after a pair that is over", more.shifts(1, 9, 0), 1);
    due("meets", more.meets(0, 1, 0), 0);
  }

  private static void meeting() {
    promise = "16";
    CurveMeetings x = told(LEVEL + STANDING + UPRIGHT);
    // Both halves of the level one touch the beginning of the standing one.
    meetingIs(x, 0, 1, 0, 47, 32, 0);
    meetingIs(x, 0, 1, 1, 48, 32, 0);
    meetingIs(x, 0, 1, 2, NONE, NONE, NONE);
    meetingIs(x, 0, 1, HIGH, NONE, NONE, NONE);
    meetingIs(x, 1, 0, 0, 32, 47, 0);
    meetingIs(x, 1, 0, 1, 32, 48, 0);
    meetingIs(x, 0, 2, 0, 1, 1, 0);
    meetingIs(x, 0, 2, 1, NONE, NONE, NONE);
    // The order of halves: of one line twice, 2 and 2, 2 and 3, 3 and 2, 3 and 3.
    CurveMeetings same = told(LEVEL + LEVEL);
    meetingIs(same, 0, 1, 0, 32, 32, 0);
    meetingIs(same, 0, 1, 1, 32, 33, 0);
    meetingIs(same, 0, 1, 2, 33, 32, 0);
    meetingIs(same, 0, 1, 3, 33, 33, 0);
    meetingIs(same, 0, 1, 4, 33, 34, 0);
    meetingIs(same, 0, 1, 5, 34, 33, 0);
    meetingIs(same, 0, 1, 93, 63, 63, 0);
    meetingIs(same, 0, 1, 94, NONE, NONE, NONE);
    int[][] bad = {{0, 0, 0, 0}, {3, 0, 0, 0}, {0, 3, 0, 0}, {-1, 0, 0, 0}, {0, -1, 0, 0}, {0, 1, -1, 0},
        {0, 1, LOW, 0}, {0, 1, 0, -1}, {0, 1, 0, 3}, {0, 1, 5, 3}};
    for (int[] b : bad) due("meeting, bad", x.meeting(b[0], b[1], b[2], b[3]), BAD);
  }

  private static void meetingIs(CurveMeetings x, int p, int q, int k, int... told) {
    for (int what = 0; what < 3; what++) {
      due("meeting(" + p + ", " + q + ", " + k + ", " + what + ")", x.meeting(p, q, k, what), told[what]);
    }
  }

  private static void spot() {
    promise = "17";
    CurveMeetings x = told(LEVEL + STANDING + UPRIGHT + LEVEL);
    spotIs(x, 0, 1, 0, 1, 2, 15, 17, 0, 1);
    spotIs(x, 1, 0, 0, 1, 2, 0, 1, 15, 17);
    spotIs(x, 0, 2, 0, 0, 1, 0, 32, 0, 32);
    spotIs(x, 0, 3, 0, 3, 94, 0, 32, 0, 32);
    spotIs(x, 0, 1, 1, NONE, NONE, NONE, NONE, NONE, NONE);
    spotIs(x, 0, 1, HIGH, NONE, NONE, NONE, NONE, NONE, NONE);
    int[][] bad = {{0, 0, 0, 0}, {4, 0, 0, 0}, {0, 4, 0, 0}, {-1, 0, 0, 0}, {0, -1, 0, 0}, {0, 1, -1, 0},
        {0, 1, LOW, 0}, {0, 1, 0, -1}, {0, 1, 0, 6}, {0, 1, 5, 6}};
    for (int[] b : bad) due("spot, bad", x.spot(b[0], b[1], b[2], b[3]), BAD);
    // Two corners of a bracket on a line are two spots, numbered along the line.
    CurveMeetings two = told("a-6 0 -6 6 6 6 6 0;" + LEVEL);
    due("spots", two.meets(0, 1, 2), 2);
    spotIs(two, 0, 1, 0, 1, 1, 0, 1, 0, 1);
    spotIs(two, 0, 1, 1, 1, 1, 31, 32, 31, 32);
    due("spot of the second", two.meeting(0, 1, 1, 2), 1);
  }

  private static void spotIs(CurveMeetings x, int p, int q, int k, int... told) {
    for (int what = 0; what < 6; what++) {
      due("spot(" + p + ", " + q + ", " + k + ", " + what + ")", x.spot(p, q, k, what), told[what]);
    }
  }

  private static void kinds() {
    // End to end along one line: a doubt without a turn.
    spotIs(told("a-6 0 -4 0 -2 0 0 0;a0 0 2 0 4 0 6 0;"), 0, 1, 0, 2, 1, 31, 32, 0, 1);
    // End to end in a corner: a doubt with a turn.
    spotIs(told("a-6 0 -4 0 -2 0 0 0;a0 0 0 2 0 4 0 6;"), 0, 1, 0, 1, 1, 31, 32, 0, 1);
    spotIs(told("a-6 0 -4 0 -2 0 0 0;a0 0 0 -2 0 -4 0 -6;"), 0, 1, 0, 1, 1, 31, 32, 0, 1);
    // The second begins 80 by 3 32nds behind: 26 to 31 of the first overlap its 0 to 5. 11 are fewer than 12.
    spotIs(told("a-6 0 -4 0 -2 0 0 0;a-1 0 1 0 3 0 5 0;"), 0, 1, 0, 2, 11, 26, 32, 0, 6);
    // These have 12 and 11 doubts in one spot by the Model.
    CurveMeetings twelve = told("a8 -2 1 9 -6 -8 5 -1;a8 -2 1 9 -6 -8 6 -1;");
    due("how many", twelve.spot(0, 1, 0, 1), 12);
    due("kind", twelve.spot(0, 1, 0, 0), 3);
    CurveMeetings eleven = told("a-2 -4 -5 0 6 7 -1 -5;a-2 -3 -5 0 6 7 -1 -5;");
    due("how many", eleven.spot(0, 1, 1, 1), 11);
    due("kind", eleven.spot(0, 1, 1, 0), 2);
    mixedTurns("a3 4 6 2 6 4 2 8;a4 3 4 3 8 3 1 6;", 1, 0);
    mixedTurns("a4 1 2 5 -6 1 2 5;a6 1 1 4 2 2 2 3;", 1, 0, 2);
    mixedTurns("a0 0 1 1 1 0 0 0;a0 -1 0 1 3 0 -1 1;", 0, 1, 0, 2);
  }

  /** All meetings are doubts of one spot, by the Model, whose turns are not all the same. */
  private static void mixedTurns(String text, int... turns) {
    CurveMeetings x = told(text);
    for (int k = 0; k < turns.length; k++) {
      int turn = x.turn(0, x.meeting(0, 1, k, 0), 1, x.meeting(0, 1, k, 1));
      due("turn of meeting " + k + " of " + text, turn, turns[k]);
    }
    due("spots of " + text, x.meets(0, 1, 2), 1);
    due("how many", x.spot(0, 1, 0, 1), turns.length);
    due("kind", x.spot(0, 1, 0, 0), 2);
  }

  private static void busiest() {
    promise = "18";
    CurveMeetings x = told(LEVEL);
    for (int what = 0; what < 3; what++) due("busiest of one", x.busiest(what), NONE);
    due("busiest, bad", x.busiest(3), BAD);
    due("busiest, bad", x.busiest(-1), BAD);
    CurveMeetings far = told("a-9 0 -9 0 -9 0 -9 0;a9 0 9 0 9 0 9 0;a0 9 0 9 0 9 0 9;");
    busiestIs(far, 0, 1, 0);
    // One spot each; the lower P, then the lower Q.
    CurveMeetings tie = told("a-9 9 -9 9 -9 9 -9 9;" + LEVEL + UPRIGHT + "a2 -6 2 -2 2 2 2 6;");
    busiestIs(tie, 1, 2, 1);
    due("reverses", tie.reverses(1), 1);
    busiestIs(tie, 1, 2, 1);
    due("shifts", tie.shifts(2, 9, 0), 1);
    busiestIs(tie, 1, 3, 1);
    due("undo", tie.undo(), 1);
    busiestIs(tie, 1, 2, 1);
    // More spots win over a lower P, and too many over all.
    CurveMeetings more = told(LEVEL + UPRIGHT + "a-6 0 -6 6 6 6 6 0;");
    busiestIs(more, 0, 2, 2);
    CurveMeetings over = told(LEVEL + "a-6 0 -6 6 6 6 6 0;a9 9 9 9 9 9 9 9;a9 9 9 9 9 9 9 9;");
    busiestIs(over, 2, 3, 101);
    due("busiest, bad", over.busiest(LOW), BAD);
    due("busiest, bad", over.busiest(HIGH), BAD);
  }

  private static void busiestIs(CurveMeetings x, int... told) {
    for (int what = 0; what < 3; what++) due("busiest(" + what + ")", x.busiest(what), told[what]);
  }

  private static void sees() {
    promise = "19";
    CurveMeetings x = told(LEVEL + UPRIGHT);
    int[][] bad = {{-1, 0}, {2, 0}, {0, -1}, {0, 102}, {LOW, 0}, {0, HIGH}, {0, LOW}};
    for (int[] b : bad) due("sees, bad", x.sees(b[0], b[1]), BAD);
    due("count(1)", x.count(1), 0);
    due("sees(0, 0)", x.sees(0, 0), 1);
    due("sees(0, 0)", x.sees(0, 0), 2);
    due("sees(1, 101)", x.sees(1, 101), 3);
    for (int k = 4; k <= 6; k++) due("sees(1, 1)", x.sees(1, 1), k);
    due("sees(1, 1)", x.sees(1, 1), FULL);
    for (int[] b : bad) due("sees, bad ahead of full", x.sees(b[0], b[1]), BAD);
    due("count(1)", x.count(1), 6);
  }

  private static void forget() {
    promise = "20";
    CurveMeetings x = told(LEVEL + UPRIGHT);
    due("forget()", x.forget(), 0);
    for (int k = 1; k <= 6; k++) x.sees(0, 50);
    due("unseen()", x.unseen(), 0);
    due("forget()", x.forget(), 6);
    due("count(1)", x.count(1), 0);
    due("unseen()", x.unseen(), 3);
    due("sees(0, 1)", x.sees(0, 1), 1);
    due("unseen()", x.unseen(), 2);
    due("forget()", x.forget(), 1);
  }

  private static void unseen() {
    promise = "21";
    // 0 and 1 cross; 2 is far from both; 2 and 3 are one dot.
    CurveMeetings x = told(LEVEL + UPRIGHT + "a9 9 9 9 9 9 9 9;a9 9 9 9 9 9 9 9;");
    due("nothing seen", x.unseen(), 15);
    x.sees(0, 1);
    due("one spot with 0", x.unseen(), 2);
    x.sees(1, 0);
    due("and none with 1, so with itself", x.unseen(), 2);
    x.sees(1, 1);
    due("and one with 1", x.unseen(), 0);
    x.forget();
    x.sees(0, 0);
    due("none with 0", x.unseen(), 13);
    x.sees(1, 0);
    due("none with 1", x.unseen(), 12);
    x.sees(2, 101);
    due("over with 2", x.unseen(), 8);
    // What was seen stays, what is asked of it is as the arcs are now.
    x.forget();
    x.sees(0, 1);
    due("shifts", x.shifts(1, 9, 0), 1);
    due("apart now", x.unseen(), 0);
    due("count(1)", x.count(1), 1);
    due("undo", x.undo(), 0);
    due("as before", x.unseen(), 2);
  }

  private static void keep() {
    promise = "22";
    CurveMeetings x = told(LEVEL + UPRIGHT);
    due("keep(0)", x.keep(0), 2);
    due("back(1)", x.back(1), STATE);
    due("keep(1)", x.keep(1), 2);
    due("keep(-1)", x.keep(-1), BAD);
    due("keep(2)", x.keep(2), BAD);
    due("keep(LOW)", x.keep(LOW), BAD);
    due("keep(HIGH)", x.keep(HIGH), BAD);
    x.moves(0, 0, 5, 5);
    due("keep(0) again", x.keep(0), 2);
    due("count(3)", x.count(3), 1);
    x.moves(0, 0, 4, 4);
    due("back(0)", x.back(0), 2);
    due("the later image", x.point(0, 1, 0, 0), 5 * 32768);
    due("back(1)", x.back(1), 2);
    due("the earlier image", x.point(0, 1, 0, 0), -6 * 32768);
  }

  private static void back() {
    promise = "23";
    CurveMeetings x = told(LEVEL + UPRIGHT);
    for (int image : new int[] {-1, 2, LOW, HIGH}) due("back, bad", x.back(image), BAD);
    due("back(0)", x.back(0), STATE);
    x.sees(0, 1);
    x.keep(0);
    x.shifts(1, 9, 0);
    x.reverses(0);
    x.sees(0, 0);
    typed(x, "abc");
    due("meets", x.meets(0, 1, 2), 0);
    due("back(1)", x.back(1), STATE);
    due("count(3)", x.count(3), 2);
    due("back(0)", x.back(0), 2);
    due("x of 0", x.point(0, 1, 0, 0), -6 * 32768);
    due("x of 1", x.point(1, 1, 0, 0), 0);
    due("x of a half of 1", x.point(1, 2, 0, 0), 0);
    due("meets", x.meets(0, 1, 2), 1);
    due("count(1)", x.count(1), 2);
    due("count(2)", x.count(2), 3);
    due("count(3)", x.count(3), 0);
    due("undo()", x.undo(), STATE);
    // An image stays as it was kept, and may be gone back to again.
    x.moves(0, 0, 9, 9);
    due("back(0)", x.back(0), 2);
    due("x of 0", x.point(0, 1, 0, 0), -6 * 32768);
  }

  private static void count() {
    promise = "24";
    CurveMeetings x = told(LEVEL + UPRIGHT + STANDING);
    x.sees(0, 1);
    x.sees(0, 1);
    for (int k = 0; k < 4; k++) x.reverses(0);
    typed(x, "a1 2;");
    due("count(0)", x.count(0), 3);
    due("count(1)", x.count(1), 2);
    due("count(2)", x.count(2), 5);
    due("count(3)", x.count(3), 4);
    for (int what : new int[] {-1, 4, LOW, HIGH}) due("count, bad", x.count(what), BAD);
  }
}
