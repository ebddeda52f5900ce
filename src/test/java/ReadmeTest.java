import java.io.IOException;
import java.net.URL;
import java.net.URLClassLoader;
import java.nio.file.Files;
import java.nio.file.Path;
import java.util.ArrayList;
import java.util.List;
import java.util.regex.Matcher;
import java.util.regex.Pattern;
import java.util.spi.ToolProvider;
import java.util.stream.Stream;

/** What README.md says is so: its examples answer what stands behind them, and it tells of every test. */
public final class ReadmeTest {
  private static final Pattern BLOCK = Pattern.compile("(?s)```java\n(.*?)```");
  private static final Pattern ANSWERED = Pattern.compile("(x\\.\\w+\\(.*\\));\\s+// (true|false|-?\\d+)(: .*)?");
  private static int wrong = 0;

  /** Called by the examples. */
  public static void due(String call, Object got, String want) {
    due(call + " answers " + want + ", not " + got, got.toString().equals(want));
  }

  private static void due(String what, boolean holds) {
    if (!holds) { wrong++; System.out.println("not so: " + what); }
  }

  public static void main(String[] args) throws Exception {
    String text = Files.readString(Path.of("README.md"));
    tests(text);
    int answers = examples(text);
    System.out.println(wrong == 0 ? answers + " answers of README.md are as due" : wrong + " things are not as due");
    if (wrong != 0) System.exit(1);
  }

  private static void tests(String text) throws IOException {
    try (Stream<Path> files = Files.list(Path.of("src/test/java"))) {
      for (Path file : files.toList()) {
        String name = file.getFileName().toString().replace(".java", "");
        due("README.md tells of " + name, text.contains("`" + name + "`"));
      }
    }
    Matcher named = Pattern.compile("`(\\w+Test)`").matcher(text);
    while (named.find()) due(named.group(1) + " is there", Files.exists(Path.of("src/test/java", named.group(1) + ".java")));
    due(".ci/run can be run", Files.isExecutable(Path.of(".ci/run")));
    due("README.md tells how to run the tests", text.contains("```sh\n.ci/run\n```"));
  }

  /** The first block is a method, the second one what is done with it. */
  private static int examples(String text) throws Exception {
    List<String> blocks = new ArrayList<>();
    Matcher block = BLOCK.matcher(text);
    while (block.find()) blocks.add(block.group(1));
    due("there are two blocks, not " + blocks.size(), blocks.size() == 2);
    int answers = 0;
    StringBuilder body = new StringBuilder();
    for (String line : blocks.get(1).split("\n")) {
      Matcher call = ANSWERED.matcher(line);
      if (call.matches()) {
        answers++;
        line = "ReadmeTest.due(\"" + call.group(1) + "\", " + call.group(1) + ", \"" + call.group(2) + "\");";
      } else {
        due("an answer that can be read: " + line, !line.startsWith("x."));
      }
      body.append(line).append('\n');
    }
    due("there are some thirty answers, not " + answers, answers >= 25);
    run("public class Example {\n" + blocks.get(0) + "public static void run() {\n" + body + "}\n}\n");
    return answers;
  }

  private static void run(String source) throws Exception {
    Path dir = Files.createTempDirectory("example");
    Path file = dir.resolve("Example.java");
    Files.writeString(file, source);
    String classes = Path.of(PegCoats.class.getResource("PegCoats.class").toURI()).getParent().toString();
    ToolProvider javac = ToolProvider.findFirst("javac").orElse(null);
    if (javac == null) {
      System.out.println("no javac inside this java: the examples were not run");
    } else if (javac.run(System.out, System.err, "--release", "17", "-cp", classes, "-d", dir.toString(), file.toString()) != 0) {
      due("the examples are compiled", false);
    } else {
      try (URLClassLoader loader = new URLClassLoader(new URL[] {dir.toUri().toURL()})) {
        loader.loadClass("Example").getMethod("run").invoke(null);
      }
    }
    try (Stream<Path> made = Files.list(dir)) {
      for (Path one : made.toList()) Files.delete(one);
    }
    Files.delete(dir);
  }
}
