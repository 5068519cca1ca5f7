import java.io.IOException;
import java.io.StringWriter;
import java.lang.reflect.Method;
import java.lang.reflect.Modifier;
import java.net.URL;
import java.net.URLClassLoader;
import java.nio.file.Files;
import java.nio.file.Path;
import java.util.ArrayList;
import java.util.List;
import java.util.TreeSet;
import java.util.regex.Matcher;
import java.util.regex.Pattern;
import java.util.stream.Stream;
import javax.tools.JavaCompiler;
import javax.tools.ToolProvider;

/**
 * README.md against the program: what it shows is compiled and run as it stands there, and each call
 * must answer as the comment behind it says; its tables must name each call and each test.
 */
final class ReadmeTest {
  private static final String NAME = "ReadmeShown";
  private static final Pattern CALL =
      Pattern.compile("(int \\w+ = )?(x\\.\\w+\\([^;]*\\)); +// (-?\\d+|true|false): .+");

  private ReadmeTest() {}

  public static void main(String[] args) throws ReflectiveOperationException, IOException {
    String readme = Files.readString(Path.of("README.md"));
    List<String> shown = javaBlocks(readme);
    Due.is("README.md shows how to use it in one row of calls", shown.size(), 1);
    for (String block : shown) {
      run(block);
    }
    callsAreNamed(readme);
    testsAreNamed(readme);
    runsAreNamed(readme);
    Due.end();
  }

  private static List<String> javaBlocks(String readme) {
    List<String> all = new ArrayList<>();
    Matcher block = Pattern.compile("(?s)```java\n(.*?)```").matcher(readme);
    while (block.find()) {
      all.add(block.group(1));
    }
    return all;
  }

  private static void run(String block) throws ReflectiveOperationException, IOException {
    Path folder = Files.createDirectories(Path.of("build/readme"));
    Path file = folder.resolve(NAME + ".java");
    Files.writeString(file, withAnswersKept(block));
    JavaCompiler javac = ToolProvider.getSystemJavaCompiler();
    Due.is("there is a compiler", javac != null, true);
    if (javac == null) {
      return;
    }
    String path = System.getProperty("java.class.path");
    int failed = javac.run(null, null, null, "-d", folder.toString(), "-cp", path, file.toString());
    Due.is("README.md: what it shows compiles", failed, 0);
    if (failed == 0) {
      compare(block, answersOf(folder));
    }
  }

  /** The same lines, but that the answer of each call is put into a row. */
  private static String withAnswersKept(String block) {
    StringWriter text = new StringWriter();
    text.write("public final class " + NAME + " {\n");
    text.write("  public static java.util.List<String> answers() {\n");
    text.write("    java.util.List<String> kept = new java.util.ArrayList<>();\n");
    for (String line : block.split("\n")) {
      Matcher call = CALL.matcher(line);
      if (!call.matches()) {
        text.write(line + "\n");
      } else if (call.group(1) == null) {
        text.write("kept.add(String.valueOf(" + call.group(2) + "));\n");
      } else {
        String name = call.group(1).split(" ")[1];
        text.write(call.group(1) + call.group(2) + ";\nkept.add(String.valueOf(" + name + "));\n");
      }
    }
    text.write("    return kept;\n  }\n}\n");
    return text.toString();
  }

  private static List<?> answersOf(Path folder) throws ReflectiveOperationException, IOException {
    URL[] from = {folder.toUri().toURL()};
    try (URLClassLoader loader = new URLClassLoader(from, ReadmeTest.class.getClassLoader())) {
      return (List<?>) loader.loadClass(NAME).getMethod("answers").invoke(null);
    }
  }

  private static void compare(String block, List<?> answers) {
    int calls = 0;
    for (String line : block.split("\n")) {
      Matcher call = CALL.matcher(line);
      if (call.matches()) {
        String got = calls < answers.size() ? answers.get(calls).toString() : "nothing";
        boolean isDue = got.equals(call.group(3));
        Due.is("README.md: " + line + " (it answered " + got + ")", isDue, true);
        calls++;
      } else {
        boolean isAside = line.isEmpty() || line.startsWith("// ");
        boolean isFirst = line.equals("BundleLine x = new BundleLine();");
        Due.is("README.md tells no answer: " + line, isAside || isFirst, true);
      }
    }
    Due.is("README.md: calls that were compared", calls, answers.size());
    Due.is("README.md: it shows some calls", calls > 20, true);
  }

  private static void callsAreNamed(String readme) {
    TreeSet<String> want = new TreeSet<>();
    for (Method m : BundleLine.class.getDeclaredMethods()) {
      if (Modifier.isPublic(m.getModifiers())) {
        want.add(m.getName());
      }
    }
    int from = Math.max(0, readme.indexOf("| what for | calls |"));
    int to = Math.max(from, readme.indexOf("\n\n", from));
    isSame("calls", named(readme.substring(from, to), "`(\\w+)`"), want);
  }

  private static void testsAreNamed(String readme) throws IOException {
    TreeSet<String> want = new TreeSet<>();
    try (Stream<Path> files = Files.list(Path.of("src/test/java"))) {
      files.map(file -> file.getFileName().toString())
          .filter(name -> name.endsWith("Test.java"))
          .forEach(name -> want.add(name.replace(".java", "")));
    }
    isSame("tests", named(readme, "(?m)^\\| `(\\w+)` \\|"), want);
  }

  private static TreeSet<String> named(String text, String as) {
    TreeSet<String> names = new TreeSet<>();
    Matcher name = Pattern.compile(as).matcher(text);
    while (name.find()) {
      names.add(name.group(1));
    }
    return names;
  }

  private static void isSame(String what, TreeSet<String> got, TreeSet<String> want) {
    Due.is("README.md names " + what + " " + got + ", there are " + want, got.equals(want), true);
  }

  /** How to run the tests, and edge tests that are named as examples. */
  private static void runsAreNamed(String readme) throws IOException {
    Due.is("README.md: .ci/run", readme.contains("```sh\n.ci/run\n```"), true);
    Due.is("there is .ci/run", Files.isExecutable(Path.of(".ci/run")), true);
    String edges = "";
    for (String test : new String[] {"CallEdgeTest", "QuestionEdgeTest", "TickEdgeTest"}) {
      edges += Files.readString(Path.of("src/test/java/" + test + ".java"));
    }
    String[] examples = {"leaseSpanAbove", "queuedOfAnEmptyQueue", "creditOneTooLittle"};
    for (String example : examples) {
      Due.is("README.md: " + example, readme.contains("`" + example + "`"), true);
      Due.is("a test: " + example, edges.contains("static void " + example + "()"), true);
    }
  }
}
