import java.util.ArrayDeque;
import java.util.ArrayList;
import java.util.Arrays;
import java.util.Deque;
import java.util.List;

/**
 * The document once more, by other means than the class: whole states are copied, points of a
 * node come from the polar form and not from halving, spots from merging sets, nothing is kept
 * from call to call. It is the answer that ModelTest holds the class against.
 */
final class Model {
  static final int BAD = -1, STATE = -2, FULL = -3, OVER = -4, NONE = -9, NO = -2147483647;

  private String text = "";
  private int[][] arcs = new int[0][];
  private final Deque<int[][]> past = new ArrayDeque<>();
  private final List<int[]> seen = new ArrayList<>();
  private final int[][][] images = new int[2][][];

  // ---- what is told

  int type(int letter) {
    if (letter < 0 || letter > 255) return BAD;
    if (text.length() == 130) return FULL;
    text += (char) letter;
    return text.length();
  }

  int clear() {
    int had = text.length();
    text = "";
    return had;
  }

  int arcs() {
    List<int[]> tokens = tokens(); // {place, end}
    List<int[]> items = new ArrayList<>();
    int next = 0;
    while (next < tokens.size()) {
      if (!is(tokens, next, "a") || items.size() == 4) return -10 - place(tokens, next);
      next++;
      int[] item = new int[8];
      for (int k = 0; k < 8; k++) {
        boolean minus = is(tokens, next, "-");
        if (minus) next++;
        String word = word(tokens, next);
        if (!word.matches("[0-9]")) return -10 - place(tokens, next);
        item[k] = Integer.parseInt(word) * (minus ? -1 : 1);
        next++;
      }
      if (!is(tokens, next, ";")) return -10 - place(tokens, next);
      next++;
      items.add(item);
    }
    arcs = items.toArray(new int[0][]);
    text = "";
    past.clear();
    seen.clear();
    Arrays.fill(images, null);
    return arcs.length;
  }

  private List<int[]> tokens() {
    List<int[]> tokens = new ArrayList<>();
    java.util.regex.Matcher m = java.util.regex.Pattern.compile("[0-9]+|[^ ]", java.util.regex.Pattern.DOTALL).matcher(text);
    while (m.find()) tokens.add(new int[] {m.start(), m.end()});
    return tokens;
  }

  private int place(List<int[]> tokens, int k) {
    return k < tokens.size() ? tokens.get(k)[0] : text.length();
  }

  private String word(List<int[]> tokens, int k) {
    return k < tokens.size() ? text.substring(tokens.get(k)[0], tokens.get(k)[1]) : "";
  }

  private boolean is(List<int[]> tokens, int k, String wanted) {
    return word(tokens, k).equals(wanted);
  }

  int point(int arc, int node, int i, int axis) {
    if (noArc(arc) || noNode(node) || i < 0 || i > 3 || axis < 0 || axis > 1) return NO;
    return (int) points(arc, node)[i][axis];
  }

  /** Points of a node: the polar form at the node's two ends, in 32nds each, so in 32768ths. */
  private long[][] points(int arc, int node) {
    int deep = 0;
    while (node >> (deep + 1) > 0) deep++;
    int width = 32 >> deep;
    int from = (node - (1 << deep)) * width;
    int to = from + width;
    long[][] answer = new long[4][2];
    for (int i = 0; i < 4; i++) {
      int[] t = new int[3];
      for (int k = 0; k < 3; k++) t[k] = k < i ? to : from;
      for (int axis = 0; axis < 2; axis++) answer[i][axis] = polar(arcs[arc], axis, t[0], t[1], t[2]);
    }
    return answer;
  }

  private static long polar(int[] arc, int axis, long u, long v, long w) {
    long a = 32 - u, b = 32 - v, c = 32 - w;
    return arc[axis] * a * b * c
        + arc[2 + axis] * (u * b * c + a * v * c + a * b * w)
        + arc[4 + axis] * (u * v * c + u * b * w + a * v * w)
        + arc[6 + axis] * u * v * w;
  }

  // ---- what is done

  int moves(int arc, int i, int x, int y) {
    if (noArc(arc) || i < 0 || i > 3 || x < -9 || x > 9 || y < -9 || y > 9) return BAD;
    if (arcs[arc][2 * i] == x && arcs[arc][2 * i + 1] == y) return STATE;
    remember();
    arcs[arc][2 * i] = x;
    arcs[arc][2 * i + 1] = y;
    return 1;
  }

  int shifts(int arc, int dx, int dy) {
    if (noArc(arc)) return BAD;
    for (int k = 0; k < 8; k++) {
      long moved = (long) arcs[arc][k] + (k % 2 == 0 ? dx : dy);
      if (moved < -9 || moved > 9) return BAD;
    }
    if (dx == 0 && dy == 0) return STATE;
    remember();
    for (int k = 0; k < 8; k++) arcs[arc][k] += k % 2 == 0 ? dx : dy;
    return 1;
  }

  int reverses(int arc) {
    if (noArc(arc)) return BAD;
    remember();
    int[] a = arcs[arc];
    arcs[arc] = new int[] {a[6], a[7], a[4], a[5], a[2], a[3], a[0], a[1]};
    return 1;
  }

  private void remember() {
    past.push(copy(arcs));
    if (past.size() > 10) past.removeLast();
  }

  private static int[][] copy(int[][] rows) {
    int[][] answer = new int[rows.length][];
    for (int k = 0; k < rows.length; k++) answer[k] = rows[k].clone();
    return answer;
  }

  int undo() {
    if (past.isEmpty()) return STATE;
    arcs = past.pop();
    return past.size();
  }

  // ---- pieces

  private boolean noArc(int arc) {
    return arc < 0 || arc >= arcs.length;
  }

  private static boolean noNode(int node) {
    return node < 1 || node > 63;
  }

  private static long cross(long a, long b, long c, long d) {
    return a * d - b * c;
  }

  private static long[] steps(long[][] p, int i) {
    return new long[] {p[i + 1][0] - p[i][0], p[i + 1][1] - p[i][1]};
  }

  /** Least and greatest side by m of points of n. */
  private static long[] sides(long[][] m, long[][] n) {
    long[] all = new long[n.length];
    for (int i = 0; i < n.length; i++) {
      all[i] = cross(m[3][0] - m[0][0], m[3][1] - m[0][1], n[i][0] - m[0][0], n[i][1] - m[0][1]);
    }
    Arrays.sort(all);
    return new long[] {all[0], all[all.length - 1]};
  }

  private static boolean clears(long[][] m, long[][] n) {
    long[] band = sides(m, m);
    long[] other = sides(m, n);
    return other[0] > band[1] || other[1] < band[0];
  }

  private static long[] range(long[][] p, int axis) {
    long[] all = {p[0][axis], p[1][axis], p[2][axis], p[3][axis]};
    Arrays.sort(all);
    return new long[] {all[0], all[3]};
  }

  private static int apartOf(long[][] m, long[][] n) {
    for (int axis = 0; axis < 2; axis++) {
      long[] a = range(m, axis), b = range(n, axis);
      if (a[1] < b[0] || b[1] < a[0]) return 1;
    }
    if (clears(m, n)) return 2;
    return clears(n, m) ? 3 : 0;
  }

  private static int turnOf(long[][] m, long[][] n) {
    int above = 0, below = 0;
    for (int i = 0; i < 3; i++) {
      for (int j = 0; j < 3; j++) {
        long c = cross(steps(m, i)[0], steps(m, i)[1], steps(n, j)[0], steps(n, j)[1]);
        if (c > 0) above++;
        if (c < 0) below++;
      }
    }
    return above == 9 ? 1 : below == 9 ? -1 : 0;
  }

  private static boolean endsBeside(long[][] m, long[][] n) {
    long[] band = sides(m, m);
    long[] ends = sides(m, new long[][] {n[0], n[3]});
    return ends[0] < band[0] && ends[1] > band[1];
  }

  private static boolean crossedOf(long[][] m, long[][] n) {
    return turnOf(m, n) != 0 && endsBeside(m, n) && endsBeside(n, m);
  }

  int apart(int p, int m, int q, int n) {
    if (noArc(p) || noArc(q) || p == q || noNode(m) || noNode(n)) return BAD;
    return apartOf(points(p, m), points(q, n));
  }

  int turn(int p, int m, int q, int n) {
    if (noArc(p) || noArc(q) || p == q || noNode(m) || noNode(n)) return BAD;
    int turn = turnOf(points(p, m), points(q, n));
    if (turn == 0) return 0;
    return (turn == 1 ? 1 : 2) + (crossedOf(points(p, m), points(q, n)) ? 2 : 0);
  }

  private static int signs(long... numbers) {
    boolean above = false, below = false;
    for (long number : numbers) {
      above |= number > 0;
      below |= number < 0;
    }
    return above ? (below ? 3 : 1) : below ? 2 : 0;
  }

  int bends(int arc, int node) {
    if (noArc(arc) || noNode(node)) return BAD;
    long[][] p = points(arc, node);
    long[] a = steps(p, 0), b = steps(p, 1), c = steps(p, 2);
    return signs(cross(a[0], a[1], b[0], b[1]), cross(b[0], b[1], c[0], c[1]));
  }

  int goes(int arc, int node, int axis) {
    if (noArc(arc) || noNode(node) || axis < 0 || axis > 1) return BAD;
    long[][] p = points(arc, node);
    return signs(steps(p, 0)[axis], steps(p, 1)[axis], steps(p, 2)[axis]);
  }

  int area(int arc, int what) {
    if (arc < -1 || arc >= arcs.length || what < 0 || what > 1) return NO;
    long sum = 0;
    for (int k = 0; k < arcs.length; k++) {
      if (arc != -1 && arc != k) continue;
      int[] a = arcs[k];
      sum += 6 * cross(a[0], a[1], a[2], a[3]) + 3 * cross(a[0], a[1], a[4], a[5])
          + cross(a[0], a[1], a[6], a[7]) + 3 * cross(a[2], a[3], a[4], a[5])
          + 3 * cross(a[2], a[3], a[6], a[7]) + 6 * cross(a[4], a[5], a[6], a[7]);
    }
    long common = java.math.BigInteger.valueOf(sum).gcd(java.math.BigInteger.valueOf(20)).longValue();
    return (int) (what == 0 ? sum / common : 20 / common);
  }

  // ---- meetings

  /** {node of P, node of Q, turn, 1 if it is a crossing, spot}. */
  private List<int[]> meetingsOf(int p, int q) {
    List<int[]> found = new ArrayList<>();
    search(p, 1, q, 1, found);
    int[] set = new int[found.size()];
    for (int k = 0; k < set.length; k++) set[k] = k;
    for (int k = 0; k < set.length; k++) {
      for (int j = 0; j < k; j++) {
        int[] a = found.get(k), b = found.get(j);
        if (a[3] == 0 && b[3] == 0 && Math.abs(a[0] - b[0]) <= 1 && Math.abs(a[1] - b[1]) <= 1) {
          int one = set[k], other = set[j];
          for (int i = 0; i < set.length; i++) if (set[i] == one) set[i] = other;
        }
      }
    }
    List<Integer> order = new ArrayList<>();
    for (int k = 0; k < set.length; k++) {
      if (!order.contains(set[k])) order.add(set[k]);
      found.get(k)[4] = order.indexOf(set[k]);
    }
    return found;
  }

  private void search(int p, int m, int q, int n, List<int[]> found) {
    long[][] a = points(p, m), b = points(q, n);
    if (apartOf(a, b) != 0) return;
    if (crossedOf(a, b)) {
      found.add(new int[] {m, n, turnOf(a, b), 1, 0});
    } else if (m >= 32 && n >= 32) {
      found.add(new int[] {m, n, turnOf(a, b), 0, 0});
    } else {
      search(p, 2 * m, q, 2 * n, found);
      search(p, 2 * m, q, 2 * n + 1, found);
      search(p, 2 * m + 1, q, 2 * n, found);
      search(p, 2 * m + 1, q, 2 * n + 1, found);
    }
  }

  /** How many meetings there are, without a limit. */
  int allMeetings(int p, int q) {
    List<int[]> found = new ArrayList<>();
    search(p, 1, q, 1, found);
    return found.size();
  }

  private int spotsOf(int p, int q) {
    if (p == q) return 0;
    if (allMeetings(p, q) > 100) return 101;
    int spots = 0;
    for (int[] meeting : meetingsOf(p, q)) spots = Math.max(spots, meeting[4] + 1);
    return spots;
  }

  int meets(int p, int q, int what) {
    if (noArc(p) || noArc(q) || p == q || what < 0 || what > 2) return BAD;
    if (allMeetings(p, q) > 100) return OVER;
    if (what == 2) return spotsOf(p, q);
    int answer = 0;
    for (int[] meeting : meetingsOf(p, q)) if (meeting[3] == 1 - what) answer++;
    return answer;
  }

  int meeting(int p, int q, int k, int what) {
    if (noArc(p) || noArc(q) || p == q || k < 0 || what < 0 || what > 2) return BAD;
    if (allMeetings(p, q) > 100) return OVER;
    List<int[]> all = meetingsOf(p, q);
    if (k >= all.size()) return NONE;
    return all.get(k)[what == 2 ? 4 : what];
  }

  int spot(int p, int q, int k, int what) {
    if (noArc(p) || noArc(q) || p == q || k < 0 || what < 0 || what > 5) return BAD;
    if (allMeetings(p, q) > 100) return OVER;
    List<int[]> mine = new ArrayList<>();
    for (int[] meeting : meetingsOf(p, q)) if (meeting[4] == k) mine.add(meeting);
    if (mine.isEmpty()) return NONE;
    if (what == 0) return kind(mine);
    if (what == 1) return mine.size();
    int axis = what / 2 - 1;
    int from = 32, to = 0;
    for (int[] meeting : mine) {
      int node = meeting[axis];
      int first = node, last = node;
      while (first < 32) {
        first = 2 * first;
        last = 2 * last + 1;
      }
      from = Math.min(from, first - 32);
      to = Math.max(to, last - 31);
    }
    return what % 2 == 0 ? from : to;
  }

  private static int kind(List<int[]> mine) {
    if (mine.get(0)[3] == 1) return 0;
    boolean allUp = true, allDown = true;
    for (int[] meeting : mine) {
      allUp &= meeting[2] == 1;
      allDown &= meeting[2] == -1;
    }
    if (allUp || allDown) return 1;
    return mine.size() < 12 ? 2 : 3;
  }

  int busiest(int what) {
    if (what < 0 || what > 2) return BAD;
    int[] best = null;
    for (int p = 0; p < arcs.length; p++) {
      for (int q = p + 1; q < arcs.length; q++) {
        int spots = spotsOf(p, q);
        if (best == null || spots > best[2]) best = new int[] {p, q, spots};
      }
    }
    return best == null ? NONE : best[what];
  }

  // ---- which arc

  int sees(int q, int n) {
    if (noArc(q) || n < 0 || n > 101) return BAD;
    if (seen.size() == 6) return FULL;
    seen.add(new int[] {q, n});
    return seen.size();
  }

  int forget() {
    int had = seen.size();
    seen.clear();
    return had;
  }

  int unseen() {
    int bits = 0;
    for (int arc = 0; arc < arcs.length; arc++) {
      boolean fits = true;
      for (int[] s : seen) fits &= spotsOf(arc, s[0]) == s[1];
      if (fits) bits += 1 << arc;
    }
    return bits;
  }

  // ---- images

  int keep(int image) {
    if (image < 0 || image > 1) return BAD;
    images[image] = copy(arcs);
    return arcs.length;
  }

  int back(int image) {
    if (image < 0 || image > 1) return BAD;
    if (images[image] == null) return STATE;
    arcs = copy(images[image]);
    past.clear();
    return arcs.length;
  }

  int count(int what) {
    switch (what) {
      case 0: return arcs.length;
      case 1: return seen.size();
      case 2: return text.length();
      case 3: return past.size();
      default: return BAD;
    }
  }
}
