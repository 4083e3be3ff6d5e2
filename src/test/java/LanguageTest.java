import java.lang.management.ManagementFactory;
import java.lang.reflect.Constructor;
import java.lang.reflect.Field;
import java.lang.reflect.Method;
import java.lang.reflect.Modifier;
import java.nio.file.Files;
import java.nio.file.Path;
import java.util.ArrayList;
import java.util.List;
import java.util.Set;
import java.util.TreeSet;
import java.util.regex.Matcher;
import java.util.regex.Pattern;

/** The face of the class, the rules of LANGUAGE.md that can be looked at, and the room it takes. */
public final class LanguageTest {
  private static final Set<String> FACE = Set.of("type(int)", "clear()", "arcs()", "point(int,int,int,int)",
      "moves(int,int,int,int)", "shifts(int,int,int)", "reverses(int)", "undo()", "apart(int,int,int,int)",
      "turn(int,int,int,int)", "bends(int,int)", "goes(int,int,int)", "area(int,int)", "meets(int,int,int)",
      "meeting(int,int,int,int)", "spot(int,int,int,int)", "busiest(int)", "sees(int,int)", "forget()", "unseen()",
      "keep(int)", "back(int)", "count(int)");
  private static final Set<String> CONSTANTS = Set.of("BAD", "STATE", "FULL", "OVER", "NONE", "NO");
  /** What of the library the class uses; each is in rule 4. */
  private static final Set<String> LIBRARY = Set.of("Math.min", "Math.max", "Math.abs", "System.arraycopy");

  private static int wrong = 0;

  private static void must(boolean holds, String what) {
    if (!holds) {
      wrong++;
      System.out.println("not so: " + what);
    }
  }

  public static void main(String[] args) throws Exception {
    face();
    for (Class<?> inside : allClasses()) members(inside);
    must(allClasses().size() <= 12, "at most twelve classes");
    source(Files.readString(Path.of(args.length > 0 ? args[0] : "src/main/java/CurveMeetings.java")));
    room();
    System.out.println(wrong == 0 ? "the rules are kept" : wrong + " rules are broken");
    if (wrong != 0) System.exit(1);
  }

  private static List<Class<?>> allClasses() {
    List<Class<?>> all = new ArrayList<>();
    all.add(CurveMeetings.class);
    all.addAll(List.of(CurveMeetings.class.getDeclaredClasses()));
    return all;
  }

  private static void face() throws Exception {
    Class<?> c = CurveMeetings.class;
    must(Modifier.isPublic(c.getModifiers()) && Modifier.isFinal(c.getModifiers()), "public and final");
    Constructor<?>[] made = c.getDeclaredConstructors();
    must(made.length == 1 && made[0].getParameterCount() == 0 && Modifier.isPublic(made[0].getModifiers()), "one constructor");
    Set<String> open = new TreeSet<>();
    for (Method m : c.getDeclaredMethods()) {
      if (Modifier.isPrivate(m.getModifiers())) continue;
      List<String> types = new ArrayList<>();
      for (Class<?> type : m.getParameterTypes()) types.add(type.getName());
      open.add(m.getName() + "(" + String.join(",", types) + ")");
      must(m.getModifiers() == Modifier.PUBLIC && m.getReturnType() == int.class, m + " is public and answers int");
    }
    must(open.equals(new TreeSet<>(FACE)), "the methods are those of the document: " + open);
    Set<String> constants = new TreeSet<>();
    for (Field f : c.getDeclaredFields()) {
      if (Modifier.isPrivate(f.getModifiers())) continue;
      constants.add(f.getName());
      must(f.getModifiers() == (Modifier.PUBLIC | Modifier.STATIC | Modifier.FINAL) && f.getType() == int.class, f + " is a constant");
    }
    must(constants.equals(new TreeSet<>(CONSTANTS)), "the constants are those of the document: " + constants);
    must(CurveMeetings.BAD == -1 && CurveMeetings.STATE == -2 && CurveMeetings.FULL == -3 && CurveMeetings.OVER == -4
        && CurveMeetings.NONE == -9 && CurveMeetings.NO == -2147483647, "the constants' numbers");
  }

  private static void members(Class<?> c) {
    if (c != CurveMeetings.class) {
      int open = c.getModifiers() & (Modifier.PUBLIC | Modifier.PROTECTED);
      must(open == 0 && Modifier.isStatic(c.getModifiers()), c + " is static and not open");
    }
    must(c.getDeclaredClasses().length == 0 || c == CurveMeetings.class, c + " has no class inside");
    int fields = 0;
    for (Field f : c.getDeclaredFields()) {
      if (Modifier.isStatic(f.getModifiers())) must(Modifier.isFinal(f.getModifiers()), f + " is final");
      else fields++;
    }
    must(fields <= 20, c + " has at most twenty fields");
    for (Method m : c.getDeclaredMethods()) {
      must(m.getParameterCount() <= 7, m + " takes at most seven");
      boolean named = FACE.stream().anyMatch(call -> call.startsWith(m.getName() + "("));
      must(!named || Modifier.isPublic(m.getModifiers()), m + " bears the name of a public one");
    }
  }

  private static void source(String text) {
    String bare = text.replaceAll("(?s)/\\*.*?\\*/", "").replaceAll("//[^\n]*", "").replaceAll("'.'", "0");
    String[] words = {"throw", "throws", "try", "catch", "finally", "synchronized", "assert", "import", "package", "volatile",
        "transient", "native", "var", "double", "float", "String", "Object", "Thread", "goto", "yield"};
    for (String word : words) must(!Pattern.compile("\\b" + word + "\\b").matcher(bare).find(), "no " + word);
    must(!bare.contains("->") && !bare.contains("::"), "no lambda, no method reference");
    must(!bare.contains("\""), "no text");
    must(text.chars().allMatch(sign -> sign < 128), "plain signs");
    Matcher used = Pattern.compile("\\b(Math|System|Integer|Long|Arrays|Character)\\.\\w+").matcher(bare);
    while (used.find()) must(LIBRARY.contains(used.group()), used.group() + " is in the library");
    must(!Pattern.compile("\\bwhile\\b").matcher(bare).find(), "every loop is a counter against a bound");
    methodLengths(text);
  }

  private static void methodLengths(String text) {
    String[] lines = text.split("\n");
    int longest = 0;
    for (int from = 0; from < lines.length; from++) {
      Matcher head = Pattern.compile("^( +)(public|private) .*\\{$").matcher(lines[from]);
      if (!head.find() || lines[from].contains(" class ") || !lines[from].contains("(")) continue;
      int to = from;
      while (to < lines.length - 1 && !lines[to].equals(head.group(1) + "}")) to++;
      longest = Math.max(longest, to - from + 1);
    }
    must(longest > 1 && longest <= 60, "methods have at most sixty lines: " + longest);
  }

  /** Rows are made in the constructor: the calls of a whole run make no object. */
  private static void room() {
    com.sun.management.ThreadMXBean bean = (com.sun.management.ThreadMXBean) ManagementFactory.getThreadMXBean();
    if (!bean.isThreadAllocatedMemorySupported() || !bean.isThreadAllocatedMemoryEnabled()) return;
    allCalls(new CurveMeetings());
    CurveMeetings x = new CurveMeetings();
    long thread = Thread.currentThread().getId();
    bean.getThreadAllocatedBytes(thread);
    long before = bean.getThreadAllocatedBytes(thread);
    allCalls(x);
    long bytes = bean.getThreadAllocatedBytes(thread) - before;
    must(bytes < 4096, "a run makes next to nothing: " + bytes + " bytes");
    before = bean.getThreadAllocatedBytes(thread);
    new CurveMeetings();
    bytes = bean.getThreadAllocatedBytes(thread) - before;
    must(bytes < 40000, "an object is small: " + bytes + " bytes");
  }

  private static final char[] TEXT = "a-6 0-2 6 2 6 6 0;a-6 6-2 0 2 0 6 6;a-6 0-2 6 2 6 6 0;a0 0 0 0 0 0 0 0;".toCharArray();

  private static void allCalls(CurveMeetings x) {
    for (char letter : TEXT) x.type(letter);
    x.arcs();
    // 28 calls a round: with the text all stay below the 512 that the document speaks of.
    for (int k = 0; k < 15; k++) {
      x.moves(k % 4, 1, k % 9, 3);
      x.shifts(k % 4, k % 2 == 0 ? 1 : -1, 0);
      x.reverses(k % 4);
      x.undo();
      for (int q = 0; q < 4; q++) {
        x.meets(k % 4, q, 2);
        x.meeting(k % 4, q, k, 0);
        x.spot(k % 4, q, 0, k % 6);
      }
      x.busiest(0);
      x.sees(k % 4, 1);
      x.unseen();
      x.keep(k % 2);
      x.back(k % 2);
      x.apart(0, 1 + k, 1, 1 + k);
      x.turn(0, 1 + k, 1, 1 + k);
      x.bends(0, 1 + k);
      x.goes(0, 1 + k, 0);
      x.area(-1, 0);
      x.point(0, 1 + k, 0, 0);
      x.count(k % 4);
    }
    x.forget();
    x.clear();
  }
}
