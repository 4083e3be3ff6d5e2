import java.lang.reflect.Method;
import java.nio.file.Files;
import java.nio.file.Path;
import java.util.Arrays;
import java.util.List;
import java.util.Map;
import java.util.Set;
import java.util.TreeMap;
import java.util.TreeSet;
import java.util.regex.Matcher;
import java.util.regex.Pattern;

/** README.md against the class (its examples) and against the document (its tables of calls). */
public final class ReadmeTest {
  private static final List<String> REFUSALS = List.of("BAD", "STATE", "FULL", "OVER", "NONE", "NO");
  private static final Pattern EXAMPLE = Pattern.compile("x\\.(\\w+)\\(([-\\d, ]*)\\); *// (-?\\d+)\\b.*");
  private static final Pattern TELL = Pattern.compile("tell\\(\"([^\"]*)\"\\);");
  private static final Pattern ROW = Pattern.compile("\\| `(\\w+\\([^)]*\\))` \\|[^|]*\\|([^|]*)\\|");
  private static final Pattern ANSWER = Pattern.compile("\\| `(\\w+)` \\| (-\\d+) \\|.*");
  private static final Pattern PROMISE = Pattern.compile("`int (\\w+\\([^)]*\\))`: (.*)");

  private static int wrong = 0;
  private static int checks = 0;

  private static void must(boolean holds, String what) {
    checks++;
    if (!holds) {
      wrong++;
      System.out.println("not so: " + what);
    }
  }

  public static void main(String[] args) throws Exception {
    List<String> readme = Files.readAllLines(Path.of("README.md"));
    Set<String> shown = examples(readme);
    must(shown.size() > 15, "most calls are shown by an example: " + shown);
    rowsAreTheDocuments(readme, Files.readAllLines(Path.of("../shared/DOC.md")));
    answersAreTheConstants(readme);
    must(readme.contains("    .ci/run"), "it says how to run the tests");
    System.out.println(checks + " of README.md, " + wrong + " not so");
    if (wrong != 0) System.exit(1);
  }

  /** Runs every block of examples on an object of its own: the names of the calls in them. */
  private static Set<String> examples(List<String> readme) throws Exception {
    Set<String> shown = new TreeSet<>();
    CurveMeetings x = null;
    for (String line : readme) {
      if (line.startsWith("```")) {
        x = line.equals("```java") ? new CurveMeetings() : null;
      } else if (x != null) {
        shown.add(example(x, line));
      }
    }
    return shown;
  }

  private static String example(CurveMeetings x, String line) throws Exception {
    Matcher tell = TELL.matcher(line);
    if (tell.matches()) {
      for (char letter : tell.group(1).toCharArray()) x.type(letter);
      return "type";
    }
    Matcher call = EXAMPLE.matcher(line);
    must(call.matches(), "an example is a call and its answer: " + line);
    if (!call.matches()) return "";
    int got = answer(x, call.group(1), call.group(2));
    must(got == Integer.parseInt(call.group(3)), line + " (it answers " + got + ")");
    return call.group(1);
  }

  private static int answer(CurveMeetings x, String name, String numbers) throws Exception {
    Object[] given = numbers.isBlank() ? new Object[0]
        : Arrays.stream(numbers.split(",")).map(number -> (Object) Integer.valueOf(number.trim())).toArray();
    Class<?>[] types = new Class<?>[given.length];
    Arrays.fill(types, int.class);
    Method method = CurveMeetings.class.getMethod(name, types);
    return (Integer) method.invoke(x, given);
  }

  private static void rowsAreTheDocuments(List<String> readme, List<String> document) {
    Map<String, Set<String>> rows = refusals(readme, ROW);
    Map<String, Set<String>> promises = refusals(document, PROMISE);
    must(promises.size() == 23, "the document has 23 calls: " + promises.keySet());
    must(rows.keySet().equals(promises.keySet()), "a row for each call, and no other: " + rows.keySet());
    for (Map.Entry<String, Set<String>> promise : promises.entrySet()) {
      Set<String> told = rows.getOrDefault(promise.getKey(), Set.of());
      must(told.equals(promise.getValue()), promise.getKey() + " is refused by " + promise.getValue() + ", told is " + told);
    }
  }

  /** By call, the refusals that its line names; one named as "-10 less" is told as FAULT. */
  private static Map<String, Set<String>> refusals(List<String> lines, Pattern form) {
    Map<String, Set<String>> answer = new TreeMap<>();
    for (String line : lines) {
      Matcher call = form.matcher(line);
      if (!call.matches()) continue;
      Set<String> named = new TreeSet<>();
      for (String word : REFUSALS) if (call.group(2).matches(".*\\b" + word + "\\b.*")) named.add(word);
      if (call.group(2).contains("-10 less")) named.add("FAULT");
      // "NO: BAD" says that NO is answered where others answer BAD.
      if (named.contains("NO")) named.remove("BAD");
      must(answer.put(call.group(1), named) == null, "one line for " + call.group(1));
    }
    return answer;
  }

  private static void answersAreTheConstants(List<String> readme) throws Exception {
    Set<String> told = new TreeSet<>();
    for (String line : readme) {
      Matcher row = ANSWER.matcher(line);
      if (!row.matches()) continue;
      told.add(row.group(1));
      int number = CurveMeetings.class.getField(row.group(1)).getInt(null);
      must(number == Integer.parseInt(row.group(2)), row.group(1) + " is " + number);
    }
    must(told.equals(new TreeSet<>(REFUSALS)), "all that is answered if a call is refused: " + told);
  }
}
