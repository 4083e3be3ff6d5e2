import java.nio.file.Files;
import java.nio.file.Path;
import java.util.ArrayList;
import java.util.LinkedHashMap;
import java.util.List;
import java.util.Map;

/**
 * What the boundary tests share: each answer is due by a sentence of the document, which must stand
 * there word for word; what no test names is told.
 */
final class Says {
  static final int BAD = -1, STATE = -2, FULL = -3, OVER = -4, NONE = -9, NO = -2147483647;
  static final int LOW = Integer.MIN_VALUE, HIGH = Integer.MAX_VALUE;
  static final int UNIT = 32768;

  /** Evenly along y = 0 from -6 to 6, along x = 0 likewise, and from the origin up. */
  static final String LEVEL = "a-6 0-2 0 2 0 6 0;";
  static final String UPRIGHT = "a0-6 0-2 0 2 0 6;";
  static final String STANDING = "a0 0 0 2 0 4 0 6;";
  static final String DOT = "a0 0 0 0 0 0 0 0;";
  /** Pairs with just 100 meetings, and with 101, by the Model. */
  static final String HUNDRED = "a-1 1 -2 2 0 0 -2 2;a-2 2 -2 2 0 0 -2 2;";
  static final String OVER_HUNDRED = "a-2 1 -2 -4 -2 -1 -2 -2;a-2 0 -2 -4 -2 0 -2 -2;";

  interface Call {
    int on(CurveMeetings x);
  }

  interface Numbers {
    int on(CurveMeetings x, int[] numbers);
  }

  interface Maker {
    CurveMeetings make();
  }

  private static final Map<String, List<String>> QUOTES = new LinkedHashMap<>();
  private static final Map<String, String> SECTIONS = new LinkedHashMap<>();
  private static String section = "";
  private static String sentence = "";
  private static int answersOfSentence = 0;
  private static int answers = 0;
  private static int wrong = 0;

  private Says() {}

  // ---- the document

  static void readDocument() throws Exception {
    String name = "";
    StringBuilder words = new StringBuilder();
    for (String line : Files.readAllLines(Path.of("../shared/DOC.md"))) {
      if (line.startsWith("## ")) {
        SECTIONS.put(name, plain(words.toString()));
        name = line.substring(3).replaceFirst(":.*", "").trim();
        words.setLength(0);
      } else {
        words.append(line).append('\n');
      }
    }
    SECTIONS.put(name, plain(words.toString()));
  }

  private static String plain(String words) {
    return words.replaceAll("```\\w*", " ").replaceAll("\\s+", " ").trim();
  }

  /** From here on all answers are due by these words of this section. */
  static void says(String where, String words) {
    endSentence();
    section = where;
    sentence = words;
    QUOTES.computeIfAbsent(where, key -> new ArrayList<>()).add(words);
    if (!SECTIONS.getOrDefault(where, "").contains(plain(words))) {
      fail("these words are not in the document");
    }
  }

  static void promise(int number, String words) {
    says("Promise " + number, words);
  }

  static void terms(String words) {
    says("Terms", words);
  }

  private static void endSentence() {
    if (!sentence.isEmpty() && answersOfSentence == 0) fail("no answer was due by this");
    answersOfSentence = 0;
  }

  /** Of this section nothing may be left untested but its signature, signs, and these words. */
  static void allSaid(String where, String... others) {
    String left = SECTIONS.getOrDefault(where, "").replaceFirst("^`[^`]*`:", "");
    List<String> quotes = new ArrayList<>(QUOTES.getOrDefault(where, List.of()));
    quotes.addAll(List.of(others));
    quotes.sort((one, other) -> other.length() - one.length());
    for (String words : quotes) left = left.replace(plain(words), " ");
    if (left.matches("(?s).*\\w.*") || quotes.isEmpty()) {
      endSentence();
      section = where;
      sentence = "";
      fail("no test names these words: " + left);
    }
  }

  static void end() {
    endSentence();
    System.out.println(answers + " answers, " + wrong + " not as due");
    if (wrong != 0) System.exit(1);
  }

  // ---- answers

  private static void fail(String what) {
    wrong++;
    System.out.println(section + ", \"" + sentence + "\": " + what);
  }

  static void due(String call, int got, int want) {
    answers++;
    answersOfSentence++;
    if (got != want) fail(call + " answered " + got + ", due is " + want);
  }

  static void same(String call, String got, String want) {
    answers++;
    answersOfSentence++;
    if (!got.equals(want)) fail(call + " answered " + got + ", due is " + want);
  }

  static CurveMeetings typed(CurveMeetings x, String text) {
    for (char letter : text.toCharArray()) x.type(letter);
    return x;
  }

  static CurveMeetings told(String text) {
    CurveMeetings x = typed(new CurveMeetings(), text);
    int items = (int) text.chars().filter(letter -> letter == ';').count();
    due("arcs() of " + text, x.arcs(), items);
    return x;
  }

  static int arcsOf(String text) {
    return typed(new CurveMeetings(), text).arcs();
  }

  /** A text whose fault is at this place: arcs() says so. */
  static void fault(String text, int place) {
    due("arcs() of '" + text + "'", arcsOf(text), -10 - place);
  }

  static void points(CurveMeetings x, int arc, int... numbers) {
    for (int k = 0; k < 8; k++) {
      due("point(" + arc + ", 1, " + k / 2 + ", " + k % 2 + ")", x.point(arc, 1, k / 2, k % 2), numbers[k] * UNIT);
    }
  }

  /** Each number of a call at both its edges, and beside and far beside them; the others stay good. */
  static void edges(String call, CurveMeetings x, int refusal, int[] good, int[][] ranges, Numbers numbers) {
    for (int k = 0; k < good.length; k++) {
      for (int edge : ranges[k]) {
        int got = numbers.on(x, with(good, k, edge));
        due(call + ", number " + k + " is " + edge + ": refused", got == refusal ? 1 : 0, 0);
      }
      int[] beside = {ranges[k][0] - 1, ranges[k][1] + 1, LOW, HIGH};
      for (int value : beside) {
        if (value >= ranges[k][0] && value <= ranges[k][1]) continue;
        due(call + ", number " + k + " is " + value, numbers.on(x, with(good, k, value)), refusal);
      }
    }
  }

  private static int[] with(int[] numbers, int k, int value) {
    int[] answer = numbers.clone();
    answer[k] = value;
    return answer;
  }

  /** All meetings of arcs 0 and 1, as node of P/node of Q:spot. */
  static String meetings(CurveMeetings x) {
    StringBuilder all = new StringBuilder();
    for (int k = 0; k < 101 && x.meeting(0, 1, k, 0) >= 0; k++) {
      if (k > 0) all.append(' ');
      all.append(x.meeting(0, 1, k, 0)).append('/').append(x.meeting(0, 1, k, 1)).append(':').append(x.meeting(0, 1, k, 2));
    }
    return all.toString();
  }

  /** All spots of arcs 0 and 1, each as kind, how many meetings, from and to on P, from and to on Q. */
  static String spots(CurveMeetings x) {
    StringBuilder all = new StringBuilder();
    for (int k = 0; k < 101 && x.spot(0, 1, k, 0) >= 0; k++) {
      if (k > 0) all.append("; ");
      for (int what = 0; what < 6; what++) all.append(what > 0 ? " " : "").append(x.spot(0, 1, k, what));
    }
    return all.toString();
  }

  // ---- that nothing changes

  /** A call that answers so, and behind which all that can be asked is as it is without the call. */
  static void changesNothing(String name, Maker state, Call call, int want) {
    CurveMeetings x = state.make();
    due(name, call.on(x), want);
    same("all behind " + name, everything(x), everything(state.make()));
  }

  /** All that an object has: it is used up by this, since what may be undone and read is. */
  static String everything(CurveMeetings x) {
    StringBuilder all = new StringBuilder();
    for (int what = 0; what < 4; what++) all.append(x.count(what)).append(' ');
    all.append(x.unseen()).append(' ').append(x.busiest(0)).append(x.busiest(1)).append(x.busiest(2));
    addPoints(all, x);
    for (int arc = 0; arc < x.count(0); arc++) all.append(x.point(arc, 45, 1, 0)).append(' ');
    for (int more = x.undo(); more >= 0; more = x.undo()) {
      all.append(" undo ").append(more);
      addPoints(all, x);
    }
    for (int image = 0; image < 2; image++) {
      all.append(" back ").append(x.back(image));
      addPoints(all, x);
    }
    all.append(" unseen ").append(x.unseen()).append(" forget ").append(x.forget());
    all.append(" arcs ").append(x.arcs());
    addPoints(all, x);
    return all.append(" clear ").append(x.clear()).toString();
  }

  private static void addPoints(StringBuilder all, CurveMeetings x) {
    for (int arc = 0; arc < x.count(0); arc++) {
      for (int k = 0; k < 8; k++) all.append(k == 0 ? " (" : ",").append(x.point(arc, 1, k / 2, k % 2) / UNIT);
      all.append(')');
    }
  }
}
