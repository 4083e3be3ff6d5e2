/** Each sentence of promises 1 to 24 that names a boundary case, by a test of its own. */
public final class PromisesBoundaryTest {
  private static final int BAD = Says.BAD, STATE = Says.STATE, FULL = Says.FULL, OVER = Says.OVER;
  private static final int NONE = Says.NONE, NO = Says.NO, LOW = Says.LOW, HIGH = Says.HIGH, UNIT = Says.UNIT;
  private static final String LEVEL = Says.LEVEL, UPRIGHT = Says.UPRIGHT, STANDING = Says.STANDING, DOT = Says.DOT;
  private static final int[] ARC = {0, 2}, NODE = {1, 63}, POINT = {0, 3}, AXIS = {0, 1}, COORDINATE = {-9, 9};

  public static void main(String[] args) throws Exception {
    Says.readDocument();
    newObject();
    type();
    clear();
    arcs();
    point();
    moves();
    shifts();
    reverses();
    undo();
    apart();
    turn();
    bends();
    goes();
    area();
    meets();
    meeting();
    spot();
    busiest();
    sees();
    forget();
    unseen();
    keep();
    back();
    count();
    for (int number = 1; number <= 24; number++) Says.allSaid("Promise " + number);
    Says.end();
  }

  private static void due(String call, int got, int want) {
    Says.due(call, got, want);
  }

  private static CurveMeetings told(String text) {
    return Says.told(text);
  }

  /** Three arcs, of which the first two cross. */
  private static CurveMeetings three() {
    return told(LEVEL + UPRIGHT + STANDING);
  }

  private static void newObject() {
    Says.promise(1, "No ARCS.");
    CurveMeetings x = new CurveMeetings();
    for (int what = 0; what < 4; what++) due("count(" + what + ")", x.count(what), 0);
    due("point", x.point(0, 1, 0, 0), NO);
    due("moves", x.moves(0, 0, 0, 0), BAD);
    due("shifts", x.shifts(0, 0, 0), BAD);
    due("reverses", x.reverses(0), BAD);
    due("undo", x.undo(), STATE);
    due("apart", x.apart(0, 1, 1, 1), BAD);
    due("turn", x.turn(0, 1, 1, 1), BAD);
    due("bends", x.bends(0, 1), BAD);
    due("goes", x.goes(0, 1, 0), BAD);
    due("area(0, 0)", x.area(0, 0), NO);
    due("meets", x.meets(0, 1, 0), BAD);
    due("meeting", x.meeting(0, 1, 0, 0), BAD);
    due("spot", x.spot(0, 1, 0, 0), BAD);
    for (int what = 0; what < 3; what++) due("busiest(" + what + ")", x.busiest(what), NONE);
    due("sees", x.sees(0, 0), BAD);
    due("unseen", x.unseen(), 0);
    due("forget", x.forget(), 0);
    due("clear", x.clear(), 0);
    due("back(0)", x.back(0), STATE);
    due("back(1)", x.back(1), STATE);
    due("area(-1, 0) beside none", x.area(-1, 0), 0);
    due("area(-1, 1) beside none", x.area(-1, 1), 1);
    due("keep(0) of none", x.keep(0), 0);
    due("back(0) to none", x.back(0), 0);
    // Two objects have nothing in common.
    CurveMeetings one = told(LEVEL), other = new CurveMeetings();
    due("count(0) of another", other.count(0), 0);
    due("type of another", other.type(' '), 1);
    due("count(2) of the one", one.count(2), 0);
  }

  private static void type() {
    Says.promise(2, "A letter (0 .. 255) comes to THE TEXT: how many it has.");
    CurveMeetings x = new CurveMeetings();
    due("type(0)", x.type(0), 1);
    due("type(255)", x.type(255), 2);
    due("count(2)", x.count(2), 2);
    due("it came as it is", x.arcs(), -10);
    Says.promise(2, "BAD;");
    Says.edges("type", new CurveMeetings(), BAD, new int[] {32}, new int[][] {{0, 255}}, (y, a) -> y.type(a[0]));
    // A letter with the same last eight bits as a good one is none.
    for (int letter : new int[] {256 + 'a', 'a' - 256, 65536 + ' ', LOW + 'a'}) due("type(" + letter + ")", x.type(letter), BAD);
    due("count(2)", x.count(2), 2);
    Says.promise(2, "FULL: 130.");
    CurveMeetings full = new CurveMeetings();
    for (int k = 1; k <= 130; k++) due("type(32)", full.type(32), k);
    for (int k = 0; k < 3; k++) due("type(32) at 130", full.type(32), FULL);
    due("count(2)", full.count(2), 130);
    due("arcs()", full.arcs(), 0);
    due("type(32), as it is empty then", full.type(32), 1);
  }

  private static void clear() {
    Says.promise(3, "THE TEXT is empty: how many letters it had.");
    CurveMeetings x = told(LEVEL);
    due("clear() of none", x.clear(), 0);
    x.type('b');
    due("clear() of one", x.clear(), 1);
    due("count(2)", x.count(2), 0);
    due("clear() again", x.clear(), 0);
    Says.typed(x, "b".repeat(130));
    due("clear() of 130", x.clear(), 130);
    due("type behind it", x.type(' '), 1);
    due("what was cleared is not read", Says.typed(x, UPRIGHT).arcs(), 1);
    Says.points(x, 0, 0, -6, 0, -2, 0, 2, 0, 6);
    // A part of an item that was cleared is not gone on with.
    Says.typed(x, "a1 2 3 -");
    due("it is told", x.arcs(), -18);
    due("clear()", x.clear(), 8);
    due("a new beginning", Says.typed(x, "4 5 6 7 8;").arcs(), -10);
    due("clear()", x.clear(), 10);
    due("the ARCS stay", x.count(0), 1);
    Says.points(x, 0, 0, -6, 0, -2, 0, 2, 0, 6);
    // Nor is its sign.
    Says.typed(x, "a-");
    due("it is told", x.arcs(), -12);
    due("clear()", x.clear(), 2);
    due("a new beginning", Says.typed(x, "a1 2 3 4 5 6 7 8;").arcs(), 1);
    Says.points(x, 0, 1, 2, 3, 4, 5, 6, 7, 8);
  }

  private static void arcs() {
    Says.promise(4, "THE TEXT tells all anew, and is empty then: how many ITEMS.");
    for (int items = 0; items <= 4; items++) {
      CurveMeetings x = told(LEVEL + UPRIGHT);
      x.keep(0);
      x.reverses(0);
      x.sees(0, 0);
      due("arcs() of " + items, Says.typed(x, DOT.repeat(items)).arcs(), items);
      due("count(0)", x.count(0), items);
      for (int what = 1; what < 4; what++) due("count(" + what + ")", x.count(what), 0);
      due("back(0)", x.back(0), STATE);
      due("undo()", x.undo(), STATE);
      for (int arc = 0; arc < 4; arc++) due("point of ARC " + arc, x.point(arc, 1, 0, 0), arc < items ? 0 : NO);
      due("arcs() again, as it is empty", x.arcs(), 0);
      due("count(0)", x.count(0), 0);
    }
    // What was found out of older ARCS is not told of new ones.
    CurveMeetings y = told(LEVEL + UPRIGHT);
    due("meets", y.meets(0, 1, 2), 1);
    due("busiest", y.busiest(2), 1);
    due("arcs()", Says.typed(y, LEVEL + "a-6 1-2 1 2 1 6 1;").arcs(), 2);
    due("busiest", y.busiest(2), 0);
    due("meets", y.meets(0, 1, 2), 0);
    Says.promise(4, "-10 less FAULT: nothing changes.");
    String[] faulty = {"x", " x", "a1 2 3 4 5 6 7 8; x", DOT + "a1", "a1 2 3 4 5 6 7 88;", "a"};
    int[] places = {0, 1, 18, 19, 15, 1};
    for (int k = 0; k < faulty.length; k++) {
      CurveMeetings x = told(LEVEL + UPRIGHT);
      x.keep(1);
      x.reverses(0);
      x.sees(0, 1);
      Says.typed(x, faulty[k]);
      due("arcs() of " + faulty[k], x.arcs(), -10 - places[k]);
      due("arcs() of it again", x.arcs(), -10 - places[k]);
      due("count(0)", x.count(0), 2);
      due("count(1)", x.count(1), 1);
      due("count(2)", x.count(2), faulty[k].length());
      due("count(3)", x.count(3), 1);
      Says.points(x, 0, 6, 0, 2, 0, -2, 0, -6, 0);
      Says.points(x, 1, 0, -6, 0, -2, 0, 2, 0, 6);
      due("unseen()", x.unseen(), 2);
      due("undo()", x.undo(), 0);
      due("back(1)", x.back(1), 2);
    }
    // The least and the greatest answer there can be: 130 letters, the last of which is the fault, or which end too early.
    Says.fault(" ".repeat(129) + "x", 129);
    Says.fault("a" + " ".repeat(129), 130);
  }

  private static void point() {
    Says.promise(5, "A POINT (0 .. 3) of a NODE of an ARC: x (axis 0), y (1), in 32768ths.");
    CurveMeetings x = told("a-9 9 0 0 0 0 9 -9;" + DOT + "a1 2 3 4 5 6 7 8;");
    due("x of POINT 0", x.point(0, 1, 0, 0), -9 * UNIT);
    due("y of POINT 0", x.point(0, 1, 0, 1), 9 * UNIT);
    due("x of POINT 3 of NODE 63", x.point(0, 63, 3, 0), 9 * UNIT);
    due("y of POINT 3 of NODE 63", x.point(0, 63, 3, 1), -9 * UNIT);
    Says.points(x, 2, 1, 2, 3, 4, 5, 6, 7, 8);
    Says.promise(5, "NO: BAD.");
    Says.edges("point", x, NO, new int[] {0, 1, 0, 0}, new int[][] {ARC, NODE, POINT, AXIS}, (y, a) -> y.point(a[0], a[1], a[2], a[3]));
  }

  private static void moves() {
    Says.promise(6, "MOVED: 1.");
    CurveMeetings x = three();
    due("x alone is another", x.moves(0, 0, -5, 0), 1);
    due("y alone is another", x.moves(0, 0, -5, 1), 1);
    due("both are", x.moves(0, 3, 9, 9), 1);
    Says.points(x, 0, -5, 1, -2, 0, 2, 0, 9, 9);
    Says.promise(6, "BAD;");
    Says.edges("moves", three(), BAD, new int[] {0, 0, 1, 1}, new int[][] {ARC, POINT, COORDINATE, COORDINATE},
        (y, a) -> y.moves(a[0], a[1], a[2], a[3]));
    Says.promise(6, "STATE: it is that.");
    due("where it is", x.moves(0, 3, 9, 9), STATE);
    due("count(3)", x.count(3), 3);
    due("elsewhere", x.moves(0, 3, 9, 8), 1);
    due("where it was", x.moves(0, 3, 9, 9), 1);
    due("undo()", x.undo(), 4);
    due("where it is again", x.moves(0, 3, 9, 8), STATE);
    due("where another POINT is", x.moves(0, 3, 2, 0), 1);
    due("where it is", told(DOT).moves(0, 2, 0, 0), STATE);
  }

  private static void shifts() {
    Says.promise(7, "SHIFTED: 1.");
    CurveMeetings x = told("a-9 -9 -9 -9 -9 -9 -9 -9;" + LEVEL);
    due("as far as can be", x.shifts(0, 18, 18), 1);
    Says.points(x, 0, 9, 9, 9, 9, 9, 9, 9, 9);
    due("and back", x.shifts(0, -18, -18), 1);
    due("along x alone", x.shifts(0, 1, 0), 1);
    due("along y alone", x.shifts(0, 0, 1), 1);
    Says.points(x, 0, -8, -8, -8, -8, -8, -8, -8, -8);
    Says.points(x, 1, -6, 0, -2, 0, 2, 0, 6, 0);
    Says.promise(7, "BAD (a coordinate would be beyond -9 .. 9, too);");
    for (int i = 0; i < 4; i++) {
      for (int axis = 0; axis < 2; axis++) {
        for (int way = -1; way <= 1; way += 2) {
          CurveMeetings y = told(DOT);
          y.moves(0, i, axis == 0 ? 6 * way : 0, axis == 1 ? 6 * way : 0);
          String call = "POINT " + i + ", axis " + axis + ", by " + way;
          due(call + " times 4", y.shifts(0, axis == 0 ? 4 * way : 0, axis == 1 ? 4 * way : 0), BAD);
          due(call + " times 3", y.shifts(0, axis == 0 ? 3 * way : 0, axis == 1 ? 3 * way : 0), 1);
          due(call + " more", y.shifts(0, axis == 0 ? way : 0, axis == 1 ? way : 0), BAD);
          due("count(3)", y.count(3), 2);
        }
      }
    }
    for (int far : new int[] {19, -19, LOW, HIGH, LOW + 1, HIGH - 8, LOW + 9}) {
      due("x by " + far, x.shifts(0, far, 0), BAD);
      due("y by " + far, x.shifts(0, 0, far), BAD);
      due("both by " + far, x.shifts(0, far, far), BAD);
    }
    for (int arc : new int[] {-1, 2, LOW, HIGH}) due("ARC " + arc, x.shifts(arc, 1, 0), BAD);
    Says.promise(7, "STATE: by 0 and 0.");
    due("by 0 and 0", x.shifts(0, 0, 0), STATE);
    due("by 0 and 0, at the edge", told("a9 9 9 9 -9 -9 -9 -9;").shifts(0, 0, 0), STATE);
    due("by 0 and 0, of no ARC", x.shifts(2, 0, 0), BAD);
    due("count(3)", x.count(3), 4);
  }

  private static void reverses() {
    Says.promise(8, "REVERSED: 1.");
    CurveMeetings x = told("a1 2 3 4 5 6 7 8;" + DOT + LEVEL);
    due("reverses(0)", x.reverses(0), 1);
    Says.points(x, 0, 7, 8, 5, 6, 3, 4, 1, 2);
    due("one that stays as it is", x.reverses(1), 1);
    due("count(3)", x.count(3), 2);
    Says.promise(8, "BAD.");
    Says.edges("reverses", x, BAD, new int[] {0}, new int[][] {ARC}, (y, a) -> y.reverses(a[0]));
    due("of one ARC, the next", told(DOT).reverses(1), BAD);
  }

  private static void undo() {
    Says.promise(9, "UNDONE: how many more may be.");
    CurveMeetings x = told(LEVEL + UPRIGHT);
    for (int k = 0; k < 11; k++) due("reverses(0)", x.reverses(0), 1);
    for (int more = 9; more >= 0; more--) {
      due("undo()", x.undo(), more);
      due("count(3)", x.count(3), more);
    }
    Says.points(x, 0, 6, 0, 2, 0, -2, 0, -6, 0);
    // Each of the three, of each ARC; and what is told of them follows.
    CurveMeetings y = told(LEVEL + UPRIGHT);
    due("moves", y.moves(0, 0, -6, 9), 1);
    due("undo()", y.undo(), 0);
    Says.points(y, 0, -6, 0, -2, 0, 2, 0, 6, 0);
    due("shifts", y.shifts(1, 9, 0), 1);
    due("meets", y.meets(0, 1, 2), 0);
    due("busiest", y.busiest(2), 0);
    due("undo()", y.undo(), 0);
    due("meets", y.meets(0, 1, 2), 1);
    due("busiest", y.busiest(2), 1);
    Says.points(y, 1, 0, -6, 0, -2, 0, 2, 0, 6);
    due("reverses", y.reverses(1), 1);
    due("turn", y.turn(0, 1, 1, 1), 4);
    due("undo()", y.undo(), 0);
    due("turn", y.turn(0, 1, 1, 1), 3);
    Says.promise(9, "STATE: none.");
    due("undo() of none left", x.undo(), STATE);
    due("undo() of none left", y.undo(), STATE);
    due("undo() of a new object", new CurveMeetings().undo(), STATE);
    due("undo() behind arcs()", told(LEVEL).undo(), STATE);
    CurveMeetings z = told(LEVEL);
    z.keep(0);
    z.reverses(0);
    z.back(0);
    due("undo() behind back()", z.undo(), STATE);
  }

  private static void apart() {
    Says.promise(10, "APART of NODES of two ARCS (0 to 3).");
    CurveMeetings x = told("a-6 -6 -2 -2 2 2 6 6;a-3 0 -3 1 -2 1 -2 2;a7 7 7 8 8 8 8 9;a0 0 0 1 0 2 0 3;");
    due("0", x.apart(0, 1, 3, 1), 0);
    due("1", x.apart(0, 1, 2, 1), 1);
    due("2", x.apart(0, 1, 1, 1), 2);
    due("3", x.apart(1, 1, 0, 1), 3);
    due("NODES 63 and 32 do not touch", x.apart(0, 63, 3, 32), 1);
    due("NODES 48 and 32 touch", x.apart(0, 48, 3, 32), 0);
    Says.promise(10, "BAD (one ARC and itself, too).");
    sameArc("apart", (y, a) -> y.apart(a[0], a[1], a[2], a[3]));
    pairEdges("apart", (y, a) -> y.apart(a[0], a[1], a[2], a[3]));
  }

  /** NODES of two of three ARCS: P, m, Q and n at their edges. Beside Q's is P itself, which is BAD as well. */
  private static void pairEdges(String call, Says.Numbers numbers) {
    Says.edges(call, three(), BAD, new int[] {0, 1, 1, 1}, new int[][] {{0, 2}, NODE, {1, 2}, NODE}, numbers);
    Says.edges(call + ", the other way", three(), BAD, new int[] {1, 1, 0, 1}, new int[][] {{1, 2}, NODE, {0, 2}, NODE}, numbers);
  }

  private static void sameArc(String call, Says.Numbers numbers) {
    CurveMeetings x = three();
    for (int arc = 0; arc < 3; arc++) {
      due(call + " of ARC " + arc + " and itself", numbers.on(x, new int[] {arc, 1, arc, 1}), BAD);
      due(call + " of ARC " + arc + " and itself, other NODES", numbers.on(x, new int[] {arc, 2, arc, 3}), BAD);
    }
    due(call + " of no ARC and itself", numbers.on(x, new int[] {3, 1, 3, 1}), BAD);
    due(call + " of no ARC and itself", numbers.on(x, new int[] {-1, 1, -1, 1}), BAD);
  }

  private static void turn() {
    Says.promise(11, "TURN and CROSSED of NODES of two ARCS: 0 TURN is 0; 1, 2: it is 1, -1; 3, 4: likewise, and they are CROSSED.");
    CurveMeetings x = three();
    due("0", x.turn(1, 1, 2, 1), 0);
    due("1", x.turn(0, 1, 2, 1), 1);
    due("2", x.turn(2, 1, 0, 1), 2);
    due("3", x.turn(0, 1, 1, 1), 3);
    due("4", x.turn(1, 1, 0, 1), 4);
    // Halves that end where they cross: a side of 0, which is neither above nor below.
    for (int m = 2; m <= 3; m++) for (int n = 2; n <= 3; n++) due("halves " + m + " and " + n, x.turn(0, m, 1, n), 1);
    Says.promise(11, "BAD likewise.");
    sameArc("turn", (y, a) -> y.turn(a[0], a[1], a[2], a[3]));
    pairEdges("turn", (y, a) -> y.turn(a[0], a[1], a[2], a[3]));
  }

  private static void bends() {
    Says.promise(12, "BENDS of a NODE.");
    CurveMeetings x = told(DOT + "a0 0 3 0 3 3 0 3;a0 0 1 2 2 -2 3 0;");
    due("0", x.bends(0, 1), 0);
    due("1", x.bends(1, 1), 1);
    due("2", x.bends(2, 2), 2);
    due("3", x.bends(2, 1), 3);
    due("NODE 63", x.bends(2, 63), 1);
    due("NODE 32", x.bends(2, 32), 2);
    Says.promise(12, "BAD.");
    Says.edges("bends", x, BAD, new int[] {0, 1}, new int[][] {ARC, NODE}, (y, a) -> y.bends(a[0], a[1]));
  }

  private static void goes() {
    Says.promise(13, "GOES of a NODE along x (axis 0), y (1).");
    CurveMeetings x = told("a0 5 1 5 1 5 2 5;a0 0 3 0 3 0 0 1;" + DOT);
    due("0", x.goes(0, 1, 1), 0);
    due("1", x.goes(0, 1, 0), 1);
    due("1", x.goes(1, 1, 1), 1);
    due("2", x.goes(1, 63, 0), 2);
    due("3", x.goes(1, 1, 0), 3);
    due("0 along x of a dot", x.goes(2, 63, 0), 0);
    Says.promise(13, "BAD.");
    Says.edges("goes", x, BAD, new int[] {0, 1, 0}, new int[][] {ARC, NODE, AXIS}, (y, a) -> y.goes(a[0], a[1], a[2]));
  }

  private static void area() {
    Says.promise(14, "AREA beside an ARC (-1: beside all together): upper (what = 0), lower number (1), in least terms.");
    // CROSS of POINTS 0 and 3 alone: so many 20ths.
    int[][] terms = {{1, 1, 1, 20}, {2, 1, 1, 10}, {3, 1, 3, 20}, {4, 1, 1, 5}, {5, 1, 1, 4}, {6, 1, 3, 10}, {8, 1, 2, 5},
        {5, 2, 1, 2}, {5, 3, 3, 4}, {8, 2, 4, 5}, {5, 4, 1, 1}, {5, 8, 2, 1}, {6, 5, 3, 2}, {7, 3, 21, 20}, {9, 9, 81, 20}, {0, 0, 0, 1},
        {0, 9, 0, 1}};
    for (int[] t : terms) {
      areaIs(told("a" + t[0] + " 0 0 0 0 0 0 " + t[1] + ";"), 0, t[2], t[3]);
      areaIs(told("a" + t[0] + " 0 0 0 0 0 0 -" + t[1] + ";"), 0, -t[2], t[3]);
    }
    CurveMeetings x = told("a1 0 0 0 0 0 0 3;a1 0 0 0 0 0 0 1;a-1 0 0 0 0 0 0 4;");
    areaIs(x, 0, 3, 20);
    areaIs(x, 1, 1, 20);
    areaIs(x, 2, -1, 5);
    areaIs(x, -1, 0, 1);
    due("reverses", x.reverses(2), 1);
    areaIs(x, -1, 2, 5);
    areaIs(new CurveMeetings(), -1, 0, 1);
    areaIs(told("a9-9 9 9-9 9-9-9;".repeat(4)), -1, 2268, 5);
    areaIs(told("a-9-9-9 9 9 9 9-9;".repeat(4)), -1, -2268, 5);
    Says.promise(14, "NO: BAD.");
    Says.edges("area", x, NO, new int[] {0, 0}, new int[][] {{-1, 2}, {0, 1}}, (y, a) -> y.area(a[0], a[1]));
    Says.edges("area of all", x, NO, new int[] {-1, 0}, new int[][] {{-1, 2}, {0, 1}}, (y, a) -> y.area(a[0], a[1]));
    due("area(-1, 2) of no ARCS", new CurveMeetings().area(-1, 2), NO);
    due("area(0, 0) of no ARCS", new CurveMeetings().area(0, 0), NO);
  }

  private static void areaIs(CurveMeetings x, int arc, int upper, int lower) {
    due("area(" + arc + ", 0)", x.area(arc, 0), upper);
    due("area(" + arc + ", 1)", x.area(arc, 1), lower);
  }

  private static void meets() {
    Says.promise(15, "MEETINGS of two ARCS: CROSSINGS (what = 0), DOUBTS (1), SPOTS (2).");
    meetsAre(LEVEL + "a-6 1-2 1 2 1 6 1;", 0, 0, 0);
    meetsAre(LEVEL + UPRIGHT, 1, 0, 1);
    meetsAre(LEVEL + STANDING, 0, 2, 1);
    meetsAre("a0 1 -1 -1 1 1 0 1;a0 1 2 1 -1 -1 0 1;", 1, 4, 5);
    Says.promise(15, "BAD (one ARC and itself, too);");
    Says.edges("meets", three(), BAD, new int[] {0, 1, 0}, new int[][] {{0, 2}, {1, 2}, {0, 2}},
        (y, a) -> y.meets(a[0], a[1], a[2]));
    for (int arc = 0; arc < 3; arc++) {
      for (int what = 0; what < 3; what++) due("an ARC and itself", three().meets(arc, arc, what), BAD);
    }
    due("Q below P", three().meets(2, 0, 2), 1);
    Says.promise(15, "OVER.");
    for (int what = 0; what < 3; what++) {
      due("of 100", told(Says.HUNDRED).meets(0, 1, what) == OVER ? 1 : 0, 0);
      due("of 101", told(Says.OVER_HUNDRED).meets(0, 1, what), OVER);
      due("of 101, the other way", told(Says.OVER_HUNDRED).meets(1, 0, what), OVER);
      due("of 1024", told(DOT + DOT).meets(0, 1, what), OVER);
    }
    CurveMeetings x = told(Says.OVER_HUNDRED);
    due("of 101", x.meets(0, 1, 2), OVER);
    due("shifts", x.shifts(0, 9, 0), 1);
    due("of none then", x.meets(0, 1, 2), 0);
  }

  private static void meetsAre(String text, int... want) {
    CurveMeetings x = told(text);
    for (int what = 0; what < 3; what++) {
      due("meets(0, 1, " + what + ") of " + text, x.meets(0, 1, what), want[what]);
      due("meets(1, 0, " + what + ") of " + text, x.meets(1, 0, what), want[what]);
    }
  }

  private static void meeting() {
    Says.promise(16, "The k-th (0 on) MEETING: 0 the NODE of P, 1 the NODE of Q, 2 its SPOT; NONE.");
    CurveMeetings x = told(LEVEL + STANDING);
    int[][] want = {{47, 32, 0}, {48, 32, 0}, {NONE, NONE, NONE}};
    for (int k = 0; k < 3; k++) {
      for (int what = 0; what < 3; what++) due("meeting(0, 1, " + k + ", " + what + ")", x.meeting(0, 1, k, what), want[k][what]);
    }
    due("far behind", x.meeting(0, 1, HIGH, 0), NONE);
    due("the first of none", told(LEVEL + "a-6 1-2 1 2 1 6 1;").meeting(0, 1, 0, 0), NONE);
    CurveMeetings hundred = told(Says.HUNDRED);
    due("the 100th", hundred.meeting(0, 1, 99, 0) == NONE ? 1 : 0, 0);
    due("behind the 100th", hundred.meeting(0, 1, 100, 2), NONE);
    due("far behind the 100th", hundred.meeting(0, 1, HIGH, 1), NONE);
    Says.promise(16, "BAD (k below 0, one ARC and itself, too);");
    Says.edges("meeting", three(), BAD, new int[] {0, 1, 0, 0}, new int[][] {{0, 2}, {1, 2}, {0, HIGH}, {0, 2}},
        (y, a) -> y.meeting(a[0], a[1], a[2], a[3]));
    for (int arc = 0; arc < 3; arc++) due("an ARC and itself", three().meeting(arc, arc, 0, 0), BAD);
    due("k is -1", x.meeting(0, 1, -1, 0), BAD);
    Says.promise(16, "OVER.");
    for (int what = 0; what < 3; what++) {
      CurveMeetings over = told(Says.OVER_HUNDRED);
      for (int k : new int[] {0, 99, 100}) due("the " + k + "th of 101", over.meeting(0, 1, k, what), OVER);
    }
  }

  private static void spot() {
    Says.promise(17, "The k-th (0 on) SPOT: 0 KIND, 1 how many MEETINGS, 2, 3 from where to where it is on P (in 32nds of t), 4, 5 on Q;"
        + " NONE.");
    Says.same("all of both", Says.spots(told(LEVEL + UPRIGHT)), "0 1 0 32 0 32");
    Says.same("around the middle, and the first 32nd", Says.spots(told(LEVEL + STANDING)), "1 2 15 17 0 1");
    Says.same("a bracket's ends", Says.spots(told("a-6 0 -6 6 6 6 6 0;" + LEVEL)), "1 1 0 1 0 1; 1 1 31 32 31 32");
    Says.same("crossings deep 1", Says.spots(told("a4 2 -6 -3 7 -8 1 -4;a4 5 -6 1 -2 1 6 0;")), "0 1 0 16 16 32");
    Says.same("a crossing deep 3", Says.spots(told("a0 1 -1 -1 1 1 0 1;a0 1 2 1 -1 -1 0 1;")),
        "1 1 0 1 0 1; 2 1 0 1 31 32; 0 1 12 16 20 24; 2 1 31 32 0 1; 1 1 31 32 31 32");
    CurveMeetings x = told(LEVEL + STANDING);
    for (int what = 0; what < 6; what++) {
      due("behind the last", x.spot(0, 1, 1, what), NONE);
      due("far behind", x.spot(0, 1, HIGH, what), NONE);
      due("the first of none", told(LEVEL + "a-6 1-2 1 2 1 6 1;").spot(0, 1, 0, what), NONE);
    }
    CurveMeetings hundred = told(Says.HUNDRED);
    due("the second of two, with 100 MEETINGS", hundred.spot(0, 1, 1, 0), 3);
    due("behind it", hundred.spot(0, 1, 2, 0), NONE);
    Says.promise(17, "BAD likewise;");
    Says.edges("spot", three(), BAD, new int[] {0, 1, 0, 0}, new int[][] {{0, 2}, {1, 2}, {0, HIGH}, {0, 5}},
        (y, a) -> y.spot(a[0], a[1], a[2], a[3]));
    for (int arc = 0; arc < 3; arc++) due("an ARC and itself", three().spot(arc, arc, 0, 0), BAD);
    due("k is -1", x.spot(0, 1, -1, 0), BAD);
    Says.promise(17, "OVER.");
    CurveMeetings over = told(Says.OVER_HUNDRED);
    for (int what = 0; what < 6; what++) due("of 101", over.spot(0, 1, 0, what), OVER);
  }

  private static void busiest() {
    Says.promise(18, "BUSIEST: 0 P, 1 Q, 2 how many SPOTS; NONE.");
    int[][] want = {{NONE, NONE, NONE}, {NONE, NONE, NONE}, {0, 1, 1}, {0, 1, 1}};
    String[] texts = {"", LEVEL, LEVEL + UPRIGHT, LEVEL + UPRIGHT + STANDING};
    for (int k = 0; k < texts.length; k++) {
      CurveMeetings x = told(texts[k]);
      for (int what = 0; what < 3; what++) due("busiest(" + what + ") of " + texts[k], x.busiest(what), want[k][what]);
    }
    CurveMeetings two = told(LEVEL + "a-6 1-2 1 2 1 6 1;");
    due("two without a SPOT", two.busiest(2), 0);
    due("two without a SPOT", two.busiest(1), 1);
    Says.promise(18, "BAD.");
    for (String text : texts) {
      Says.edges("busiest", told(text), BAD, new int[] {0}, new int[][] {{0, 2}}, (y, a) -> y.busiest(a[0]));
    }
  }

  private static void sees() {
    Says.promise(19, "SEEN: how much there is.");
    CurveMeetings x = three();
    for (int k = 1; k <= 6; k++) due("sees(2, 0)", x.sees(2, 0), k);
    due("count(1)", x.count(1), 6);
    Says.promise(19, "BAD (n 0 .. 101);");
    Says.edges("sees", three(), BAD, new int[] {0, 1}, new int[][] {ARC, {0, 101}}, (y, a) -> y.sees(a[0], a[1]));
    CurveMeetings bad = three();
    for (int n : new int[] {-1, 102, LOW, HIGH}) due("sees(0, " + n + ")", bad.sees(0, n), BAD);
    due("count(1)", bad.count(1), 0);
    due("sees of no ARCS", new CurveMeetings().sees(0, 0), BAD);
    Says.promise(19, "FULL: 6.");
    due("the seventh", x.sees(2, 0), FULL);
    due("count(1)", x.count(1), 6);
    due("forget()", x.forget(), 6);
    due("the first anew", x.sees(2, 0), 1);
  }

  private static void forget() {
    Says.promise(20, "Nothing is SEEN: how much was.");
    CurveMeetings x = told(LEVEL + UPRIGHT);
    due("forget() of nothing", x.forget(), 0);
    for (int many = 1; many <= 6; many++) {
      for (int k = 0; k < many; k++) x.sees(0, 7);
      due("unseen()", x.unseen(), 0);
      due("forget()", x.forget(), many);
      due("count(1)", x.count(1), 0);
      due("unseen()", x.unseen(), 3);
    }
    due("forget() again", x.forget(), 0);
    for (int k = 0; k < 7; k++) x.sees(0, 7);
    due("forget() of a seventh that was refused", x.forget(), 6);
  }

  private static void unseen() {
    Says.promise(21, "UNSEEN (bits).");
    due("no ARCS", new CurveMeetings().unseen(), 0);
    for (int arcs = 1; arcs <= 4; arcs++) due("nothing SEEN of " + arcs, told(DOT.repeat(arcs)).unseen(), (1 << arcs) - 1);
    // Far from each other, but for 0 and 3, which cross.
    CurveMeetings x = told(LEVEL + "a9 9 9 9 9 9 9 9;a-9 9-9 9-9 9-9 9;" + UPRIGHT);
    x.sees(0, 1);
    due("ARC 3 alone", x.unseen(), 8);
    x.forget();
    x.sees(3, 1);
    due("ARC 0 alone", x.unseen(), 1);
    x.sees(3, 0);
    due("none", x.unseen(), 0);
    // What was SEEN stays, and is asked of the ARCS as they are.
    x.forget();
    x.sees(0, 1);
    due("shifts", x.shifts(3, 9, 0), 1);
    due("none now", x.unseen(), 0);
    due("undo", x.undo(), 0);
    due("ARC 3 again", x.unseen(), 8);
  }

  private static void keep() {
    Says.promise(22, "An IMAGE is kept: ARCS.");
    for (int arcs = 0; arcs <= 4; arcs++) {
      CurveMeetings x = told(DOT.repeat(arcs));
      due("keep(0) of " + arcs, x.keep(0), arcs);
      due("keep(1) of " + arcs, x.keep(1), arcs);
      due("back(0)", x.back(0), arcs);
      due("back(1)", x.back(1), arcs);
    }
    // Kept anew, it is the later one.
    CurveMeetings x = told(LEVEL);
    x.keep(1);
    x.moves(0, 0, 1, 1);
    due("keep(1) again", x.keep(1), 1);
    x.moves(0, 0, 2, 2);
    due("back(1)", x.back(1), 1);
    Says.points(x, 0, 1, 1, -2, 0, 2, 0, 6, 0);
    Says.promise(22, "BAD.");
    Says.edges("keep", x, BAD, new int[] {0}, new int[][] {AXIS}, (y, a) -> y.keep(a[0]));
  }

  private static void back() {
    Says.promise(23, "All of that becomes as an IMAGE has it: ARCS.");
    CurveMeetings x = told(LEVEL + UPRIGHT);
    x.keep(1);
    x.shifts(1, 9, 0);
    x.keep(0);
    due("meets", x.meets(0, 1, 2), 0);
    due("back(1)", x.back(1), 2);
    due("meets", x.meets(0, 1, 2), 1);
    due("busiest", x.busiest(2), 1);
    Says.points(x, 1, 0, -6, 0, -2, 0, 2, 0, 6);
    due("back(0)", x.back(0), 2);
    due("busiest", x.busiest(2), 0);
    Says.points(x, 1, 9, -6, 9, -2, 9, 2, 9, 6);
    // An IMAGE stays as it was kept, whatever is done behind back().
    due("moves", x.moves(1, 0, 0, 0), 1);
    due("back(0) again", x.back(0), 2);
    Says.points(x, 1, 9, -6, 9, -2, 9, 2, 9, 6);
    Says.promise(23, "BAD;");
    CurveMeetings y = told(LEVEL);
    y.keep(0);
    y.keep(1);
    Says.edges("back", y, BAD, new int[] {0}, new int[][] {AXIS}, (z, a) -> z.back(a[0]));
    Says.promise(23, "STATE: none was kept.");
    due("back(0) of a new object", new CurveMeetings().back(0), STATE);
    for (int image = 0; image < 2; image++) {
      CurveMeetings z = told(LEVEL);
      due("back of none", z.back(image), STATE);
      z.keep(1 - image);
      due("back of the other", z.back(image), STATE);
      z.reverses(0);
      due("back of the other", z.back(image), STATE);
      due("count(3)", z.count(3), 1);
      z.keep(image);
      due("back", z.back(image), 1);
      due("arcs()", z.arcs(), 0);
      due("back behind arcs()", z.back(image), STATE);
    }
  }

  private static void count() {
    Says.promise(24, "0 ARCS, 1 SEEN, 2 letters of THE TEXT, 3 how many may be UNDONE.");
    CurveMeetings x = told(DOT + DOT + DOT + DOT);
    int[] least = {4, 0, 0, 0}, most = {4, 6, 130, 10};
    for (int what = 0; what < 4; what++) due("count(" + what + ")", x.count(what), least[what]);
    for (int k = 0; k < 131; k++) x.type('a');
    for (int k = 0; k < 7; k++) x.sees(3, 101);
    for (int k = 0; k < 11; k++) x.reverses(0);
    for (int what = 0; what < 4; what++) due("count(" + what + ") at its most", x.count(what), most[what]);
    Says.promise(24, "BAD.");
    Says.edges("count", x, BAD, new int[] {0}, new int[][] {{0, 3}}, (y, a) -> y.count(a[0]));
  }
}
