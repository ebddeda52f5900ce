import java.io.PrintWriter;
import java.io.StringWriter;
import java.nio.file.Path;
import java.util.ArrayList;
import java.util.HashMap;
import java.util.List;
import java.util.Map;
import java.util.Set;
import java.util.TreeMap;
import java.util.TreeSet;
import java.util.regex.Matcher;
import java.util.regex.Pattern;
import java.util.spi.ToolProvider;

/** The rules of LANGUAGE.md that show in the compiled program: what it calls, how deep, and where it makes objects. */
public final class RulesTest {
  /** Of what rule 4 lists, that which the program uses; more may be put here, if the rule has it. */
  private static final Set<String> LIBRARY = Set.of("java/lang/Object.<init>", "java/lang/Math.min", "java/lang/Math.max",
      "java/lang/Math.abs", "java/lang/Integer.bitCount", "java/lang/String.charAt", "java/lang/System.arraycopy");
  private static final Pattern METHOD = Pattern.compile("  (?! )(?:.* )?([\\w$.]+)\\([^)]*\\);");
  private static final Pattern CALL = Pattern.compile("// (?:Interface)?Method (\\S+):");
  private static final Pattern STEP = Pattern.compile("\\s+\\d+: (\\w+).*");
  private static final int DEEPEST = 8;

  private static final Map<String, Set<String>> calls = new TreeMap<>();
  private static int wrong = 0;

  public static void main(String[] args) throws Exception {
    ToolProvider javap = ToolProvider.findFirst("javap").orElse(null);
    if (javap == null) {
      System.out.println("no javap here: nothing was looked at");
      return;
    }
    look(PegCoats.class, javap);
    for (Class<?> c : PegCoats.class.getDeclaredClasses()) look(c, javap);
    due("more than a hundred methods are seen, not " + calls.size(), calls.size() > 100);
    depth();
    System.out.println(wrong == 0 ? calls.size() + " methods are as due" : wrong + " things are not as due");
    if (wrong != 0) System.exit(1);
  }

  private static void due(String what, boolean holds) {
    if (!holds) { wrong++; System.out.println("not so: " + what); }
  }

  private static void look(Class<?> c, ToolProvider javap) throws Exception {
    StringWriter said = new StringWriter();
    Path file = Path.of(PegCoats.class.getResource(c.getName() + ".class").toURI());
    due("javap reads " + file, javap.run(new PrintWriter(said), new PrintWriter(System.err), "-p", "-c", file.toString()) == 0);
    String method = "";
    for (String line : said.toString().split("\\R")) {
      Matcher head = METHOD.matcher(line);
      if (head.matches()) {
        String name = head.group(1).replace('.', '$');
        method = c.getName() + "." + (name.equals(c.getName()) ? "<init>" : name);
        calls.put(method, new TreeSet<>());
      } else if (!method.isEmpty()) {
        step(c, method, line);
      }
    }
  }

  private static void step(Class<?> c, String method, String line) {
    due(method + " catches nothing", !line.contains("Exception table"));
    Matcher step = STEP.matcher(line);
    if (!step.matches()) return;
    String what = step.group(1);
    due(method + " does no " + what, !Set.of("invokedynamic", "athrow", "monitorenter", "checkcast", "ddiv", "fdiv").contains(what));
    boolean makes = what.equals("new") || what.endsWith("newarray");
    due(method + " makes nothing, being no constructor", !makes || method.endsWith(".<init>"));
    Matcher call = CALL.matcher(line);
    if (!call.find()) return;
    String called = call.group(1).replace("\"", "");
    if (!called.contains(".")) called = c.getName() + "." + called;
    if (called.startsWith("PegCoats")) {
      calls.get(method).add(called);
    } else {
      due(method + " calls of the library what is listed, not " + called, LIBRARY.contains(called));
    }
  }

  /** Methods that call one another count as one, as the rule is about calls that are no recursion. */
  private static void depth() {
    Map<String, Set<String>> reached = new HashMap<>();
    for (String method : calls.keySet()) reached.put(method, reachedFrom(method));
    Map<String, List<String>> known = new HashMap<>();
    for (String method : calls.keySet()) {
      List<String> way = longest(method, reached, known);
      due("the calls go at most eight deep, not " + way, way.size() <= DEEPEST);
    }
  }

  private static Set<String> reachedFrom(String method) {
    Set<String> found = new TreeSet<>();
    List<String> left = new ArrayList<>(calls.get(method));
    while (!left.isEmpty()) {
      String next = left.remove(left.size() - 1);
      if (found.add(next)) left.addAll(calls.getOrDefault(next, Set.of()));
    }
    return found;
  }

  private static List<String> longest(String method, Map<String, Set<String>> reached, Map<String, List<String>> known) {
    if (known.containsKey(method)) return known.get(method);
    Set<String> together = new TreeSet<>(Set.of(method));
    for (String other : reached.get(method)) {
      if (reached.getOrDefault(other, Set.of()).contains(method)) together.add(other);
    }
    List<String> best = List.of();
    for (String one : together) {
      for (String next : calls.get(one)) {
        if (together.contains(next) || !calls.containsKey(next)) continue;
        List<String> way = longest(next, reached, known);
        if (way.size() > best.size()) best = way;
      }
    }
    List<String> whole = new ArrayList<>(List.of(method));
    whole.addAll(best);
    known.put(method, whole);
    return whole;
  }
}
