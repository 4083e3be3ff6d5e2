import java.util.Random;

/** The class against the Model on runs of calls from fixed seeds: each answer must be the same. */
public final class ModelTest {
  private static final int RUNS = 500;
  private static final int CALLS = 512;
  private static final int PAIRS = 3000;
  private static int wrong = 0;

  private final Random random;
  private final CurveMeetings real = new CurveMeetings();
  private final Model model = new Model();
  private final StringBuilder log = new StringBuilder();
  private int calls = 0;

  private ModelTest(long seed) {
    random = new Random(seed);
  }

  public static void main(String[] args) {
    for (int seed = 1; seed <= RUNS && wrong < 3; seed++) {
      ModelTest run = new ModelTest(seed);
      if (!run.goesWell()) {
        wrong++;
        System.out.println("seed " + seed + ":\n" + run.log);
      }
    }
    for (int seed = 1; seed <= PAIRS && wrong < 3; seed++) {
      ModelTest pair = new ModelTest(-seed);
      if (!pair.tellsAllOfTwo()) {
        wrong++;
        System.out.println("pair " + seed + ":\n" + pair.log);
      }
    }
    System.out.println(wrong == 0 ? "the class and the model agree" : wrong + " runs differ");
    if (wrong != 0) System.exit(1);
  }

  private boolean goesWell() {
    while (calls < CALLS) {
      boolean same = random.nextInt(40) == 0 || calls == 0 ? tellsArcs() : anyCall();
      if (!same) return false;
    }
    return true;
  }

  private boolean same(String call, int got, int want) {
    calls++;
    log.append(call).append(" = ").append(got);
    if (got != want) log.append(", the model says ").append(want);
    log.append('\n');
    return got == want;
  }

  private boolean tellsArcs() {
    String text = random.nextInt(4) == 0 ? spoilt(text()) : text();
    // Behind its 512th call an object may answer anything: a text that would go there is not told.
    if (calls + text.length() + 2 > CALLS) return anyCall();
    if (!same("clear()", real.clear(), model.clear())) return false;
    for (char letter : text.toCharArray()) {
      if (!same("type(" + (int) letter + ")", real.type(letter), model.type(letter))) return false;
    }
    return same("arcs()", real.arcs(), model.arcs());
  }

  /** Two arcs, and all that is told of their meetings and spots. */
  private boolean tellsAllOfTwo() {
    int reach = 1 + random.nextInt(9);
    int[] one = arc(reach, null);
    for (char letter : (item(one) + item(arc(reach, one))).toCharArray()) {
      if (!same("type(" + letter + ")", real.type(letter), model.type(letter))) return false;
    }
    if (!same("arcs()", real.arcs(), model.arcs())) return false;
    for (int what = 0; what < 3; what++) if (!meetsAgree(0, 1, what) || !meetsAgree(1, 0, what)) return false;
    int all = Math.min(12, model.meets(0, 1, 0) + model.meets(0, 1, 1));
    for (int k = 0; k <= all; k++) {
      for (int what = 0; what < 3; what++) if (!meetingsAgree(0, 1, k, what)) return false;
    }
    int spots = model.meets(0, 1, 2);
    for (int k = 0; k <= spots; k++) {
      for (int what = 0; what < 6; what++) if (!spotsAgree(0, 1, k, what)) return false;
    }
    return true;
  }

  private static String item(int[] arc) {
    StringBuilder item = new StringBuilder("a");
    for (int number : arc) item.append(number).append(' ');
    return item.append(';').toString();
  }

  private boolean meetsAgree(int p, int q, int what) {
    return same("meets(" + p + ", " + q + ", " + what + ")", real.meets(p, q, what), model.meets(p, q, what));
  }

  private boolean meetingsAgree(int p, int q, int k, int what) {
    return same("meeting(" + p + ", " + q + ", " + k + ", " + what + ")", real.meeting(p, q, k, what), model.meeting(p, q, k, what));
  }

  private boolean spotsAgree(int p, int q, int k, int what) {
    return same("spot(" + p + ", " + q + ", " + k + ", " + what + ")", real.spot(p, q, k, what), model.spot(p, q, k, what));
  }

  private String text() {
    int arcs = random.nextInt(20) == 0 ? 5 : random.nextInt(5);
    int reach = 1 + random.nextInt(9);
    int[][] all = new int[arcs][];
    StringBuilder text = new StringBuilder();
    for (int k = 0; k < arcs; k++) {
      all[k] = arc(reach, k > 0 ? all[random.nextInt(k)] : null);
      text.append('a');
      for (int i = 0; i < 8; i++) {
        if (i > 0 && all[k][i] >= 0 || random.nextInt(10) == 0) text.append(' ');
        text.append(all[k][i]);
      }
      text.append(';');
    }
    return text.toString();
  }

  /** Arcs of several kinds, often near one that there is: the doubtful cases are the point. */
  private int[] arc(int reach, int[] other) {
    int[] a = new int[8];
    int kind = random.nextInt(8);
    if (kind == 0) { // evenly along a line
      int x = near(3), y = near(3), dx = near(2), dy = near(2);
      for (int i = 0; i < 4; i++) {
        a[2 * i] = x + i * dx;
        a[2 * i + 1] = y + i * dy;
      }
    } else if (kind <= 4 && other != null) { // another one, turned round or moved a little
      for (int k = 0; k < 8; k++) a[k] = kind == 1 ? other[(k % 2 == 0 ? 6 : 8) - k] : other[k];
      if (kind >= 3) a[random.nextInt(8)] += near(2);
      if (kind == 4) for (int k = 0; k < 2; k++) a[random.nextInt(8)] += near(2);
    } else if (kind == 5 && other != null) { // begins where another one ends
      for (int k = 0; k < 8; k++) a[k] = near(reach);
      a[0] = other[6];
      a[1] = other[7];
    } else {
      for (int k = 0; k < 8; k++) a[k] = near(reach);
    }
    for (int k = 0; k < 8; k++) a[k] = Math.max(-9, Math.min(9, a[k]));
    return a;
  }

  private int near(int reach) {
    return random.nextInt(2 * reach + 1) - reach;
  }

  private String spoilt(String text) {
    StringBuilder spoilt = new StringBuilder(text);
    String letters = "a-; 0199bA\t";
    for (int k = random.nextInt(3); k >= 0; k--) {
      int at = random.nextInt(spoilt.length() + 1);
      if (random.nextBoolean() && at < spoilt.length()) spoilt.deleteCharAt(at);
      else spoilt.insert(at, letters.charAt(random.nextInt(letters.length())));
    }
    return spoilt.toString();
  }

  /** Mostly from 0 to most, now and then beside it. */
  private int upTo(int most) {
    if (random.nextInt(30) == 0) {
      int[] odd = {-1, most + 1, most + 2, -2, Integer.MIN_VALUE, Integer.MAX_VALUE};
      return odd[random.nextInt(odd.length)];
    }
    return random.nextInt(most + 1);
  }

  private int arcNumber() {
    return upTo(Math.max(0, model.count(0) - 1));
  }

  private int node() {
    int deep = random.nextInt(6);
    return random.nextInt(30) == 0 ? upTo(64) : (1 << deep) + random.nextInt(1 << deep);
  }

  private boolean anyCall() {
    switch (random.nextInt(5)) {
      case 0: return change();
      case 1: return pieces();
      default: return random.nextInt(4) > 0 ? meetings() : rest();
    }
  }

  private boolean change() {
    int arc = arcNumber(), a = near(random.nextInt(12) == 0 ? 12 : 9), b = near(9), i = upTo(3);
    switch (random.nextInt(7)) {
      case 0: case 1:
        return same("moves(" + arc + ", " + i + ", " + a + ", " + b + ")", real.moves(arc, i, a, b), model.moves(arc, i, a, b));
      case 2: case 3:
        int dx = random.nextInt(20) == 0 ? Integer.MIN_VALUE : near(2), dy = random.nextInt(20) == 0 ? Integer.MAX_VALUE : near(2);
        return same("shifts(" + arc + ", " + dx + ", " + dy + ")", real.shifts(arc, dx, dy), model.shifts(arc, dx, dy));
      case 4:
        return same("reverses(" + arc + ")", real.reverses(arc), model.reverses(arc));
      default:
        return same("undo()", real.undo(), model.undo());
    }
  }

  private boolean pieces() {
    int p = arcNumber(), q = arcNumber(), m = node(), n = node(), i = upTo(3), axis = upTo(1);
    String pair = "(" + p + ", " + m + ", " + q + ", " + n + ")";
    switch (random.nextInt(8)) {
      case 0: case 1: return same("apart" + pair, real.apart(p, m, q, n), model.apart(p, m, q, n));
      case 2: case 3: return same("turn" + pair, real.turn(p, m, q, n), model.turn(p, m, q, n));
      case 4: return same("bends(" + p + ", " + m + ")", real.bends(p, m), model.bends(p, m));
      case 5: return same("goes(" + p + ", " + m + ", " + axis + ")", real.goes(p, m, axis), model.goes(p, m, axis));
      case 6:
        int arc = random.nextInt(3) == 0 ? -1 : p;
        return same("area(" + arc + ", " + axis + ")", real.area(arc, axis), model.area(arc, axis));
      default:
        return same("point(" + p + ", " + m + ", " + i + ", " + axis + ")", real.point(p, m, i, axis), model.point(p, m, i, axis));
    }
  }

  private boolean meetings() {
    int p = arcNumber(), q = arcNumber(), what = upTo(2), k = upTo(random.nextInt(4) == 0 ? 101 : 8);
    switch (random.nextInt(4)) {
      case 0: return meetsAgree(p, q, what);
      case 1: return meetingsAgree(p, q, k, what);
      default: return spotsAgree(p, q, upTo(random.nextInt(3) + 1), upTo(5));
    }
  }

  private boolean rest() {
    int arc = arcNumber(), image = upTo(1), what = upTo(3);
    int n = random.nextInt(4) == 0 ? upTo(101) : random.nextInt(6) == 0 ? 101 : random.nextInt(3);
    switch (random.nextInt(9)) {
      case 0: return same("busiest(" + what + ")", real.busiest(what), model.busiest(what));
      case 1: case 2: return same("sees(" + arc + ", " + n + ")", real.sees(arc, n), model.sees(arc, n));
      case 3:
        return random.nextInt(3) > 0 ? same("unseen()", real.unseen(), model.unseen()) : same("forget()", real.forget(), model.forget());
      case 4: return same("unseen()", real.unseen(), model.unseen());
      case 5: return same("keep(" + image + ")", real.keep(image), model.keep(image));
      case 6: return same("back(" + image + ")", real.back(image), model.back(image));
      default: return same("count(" + what + ")", real.count(what), model.count(what));
    }
  }
}
