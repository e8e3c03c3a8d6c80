import java.lang.reflect.Method;
import java.net.URL;
import java.net.URLClassLoader;
import java.nio.file.Files;
import java.nio.file.Path;
import java.util.ArrayList;
import java.util.LinkedHashMap;
import java.util.List;
import java.util.Map;
import java.util.regex.Matcher;
import java.util.regex.Pattern;
import javax.tools.ToolProvider;

/** What README.md says: its code is compiled and run, its table of calls is held against the document. */
public final class ReadmeTest {
  private static final Pattern BLOCK = Pattern.compile("(?s)```java\n(.*?)```");
  private static final Pattern CALL = Pattern.compile("(x\\.\\w+\\(.*\\));\\s*// (-?\\d+)\\b.*");
  private static final Pattern ROW = Pattern.compile("(?m)^\\| `(\\w+\\([^`]*\\))` \\| (.*) \\| (.*)\\|$");
  private static final Pattern FACE = Pattern.compile("public (?:int|long) (\\w+)\\((.*)\\);");
  private static final Pattern PROMISE = Pattern.compile("(?m)^`(?:int|long) (\\w+)\\(.*?\\)`: (.*)$");
  private static final String[] REFUSALS = {"BAD", "NULL", "NOT", "FULL", "SIZE", "CAST", "STORE", "INDEX"};
  private static int wrong = 0;

  /** The code of README.md calls this. */
  public static void due(String call, long got, long want) {
    if (got != want) {
      wrong++;
      System.out.println("README.md: " + call + " answers " + got + ", not " + want);
    }
  }

  private static void check(boolean fine, String what) {
    if (!fine) {
      wrong++;
      System.out.println("README.md: " + what);
    }
  }

  public static void main(String[] args) throws Exception {
    String readme = Files.readString(Path.of("README.md"));
    String document = Files.readString(Path.of("../shared/DOC.md"));
    runCode(readme);
    holdTable(readme, document);
    check(readme.contains(".ci/run"), "does not say how tests are run");
    namesEveryTest(readme);
    System.out.println(wrong == 0 ? "README.md holds" : wrong + " things in README.md do not hold");
    if (wrong != 0) {
      System.exit(1);
    }
  }

  private static void runCode(String readme) throws Exception {
    StringBuilder source = new StringBuilder("public class ReadmeCode {\n");
    Matcher block = BLOCK.matcher(readme);
    int blocks = 0;
    int calls = 0;
    while (block.find()) {
      source.append("  public static void block").append(blocks++).append("() {\n");
      for (String line : block.group(1).split("\n")) {
        Matcher call = CALL.matcher(line);
        if (call.matches()) {
          calls++;
          String words = call.group(1).replace("\"", "'");
          source.append("ReadmeTest.due(\"" + words + "\", " + call.group(1) + ", " + call.group(2) + "L);\n");
        } else {
          check(!line.startsWith("x."), "no answer stands behind " + line);
          source.append(line).append("\n");
        }
      }
      source.append("  }\n");
    }
    check(blocks == 2 && calls > 40, "has " + blocks + " blocks of code with " + calls + " answers");
    compileAndRun(source.append("}\n").toString(), blocks);
  }

  private static void compileAndRun(String source, int blocks) throws Exception {
    Path dir = Files.createTempDirectory("readme");
    Path file = dir.resolve("ReadmeCode.java");
    Files.writeString(file, source);
    int failed = ToolProvider.getSystemJavaCompiler().run(null, null, null,
        "-cp", System.getProperty("java.class.path"), "-d", dir.toString(), file.toString());
    check(failed == 0, "has code that does not compile");
    if (failed == 0) {
      try (URLClassLoader loader = new URLClassLoader(new URL[] {dir.toUri().toURL()})) {
        Class<?> code = loader.loadClass("ReadmeCode");
        for (int i = 0; i < blocks; i++) {
          Method block = code.getMethod("block" + i);
          block.invoke(null);
        }
      }
    }
    try (var files = Files.list(dir)) {
      for (Path each : files.toList()) {
        Files.delete(each);
      }
    }
    Files.delete(dir);
  }

  private static void holdTable(String readme, String document) {
    List<String> due = new ArrayList<>();
    Matcher face = FACE.matcher(document);
    while (face.find()) {
      due.add(face.group(1) + "(" + face.group(2).replace("int ", "") + ")");
    }
    Map<String, String> refusals = new LinkedHashMap<>();
    Matcher promise = PROMISE.matcher(document);
    while (promise.find()) {
      refusals.put(promise.group(1), refusalsIn(promise.group(2)));
    }
    List<String> rows = new ArrayList<>();
    Matcher row = ROW.matcher(readme);
    while (row.find()) {
      rows.add(row.group(1));
      String name = row.group(1).substring(0, row.group(1).indexOf('('));
      check(row.group(3).trim().equals(refusals.get(name)),
          name + " refuses " + refusals.get(name) + " by the document, not " + row.group(3).trim());
    }
    check(due.size() == 33 && rows.equals(due), "the table has " + rows + ", the face " + due);
  }

  /** In the order in which they are named. */
  private static String refusalsIn(String words) {
    Map<Integer, String> places = new java.util.TreeMap<>();
    for (String refusal : REFUSALS) {
      Matcher m = Pattern.compile("\\b" + refusal + "\\b").matcher(words);
      if (m.find()) {
        places.put(m.start(), refusal);
      }
    }
    return String.join(", ", places.values());
  }

  private static void namesEveryTest(String readme) throws Exception {
    try (var files = Files.list(Path.of("src/test/java"))) {
      for (Path each : files.toList()) {
        String name = each.getFileName().toString().replace(".java", "");
        check(readme.contains("- `" + name + "`:"), "does not name " + name);
      }
    }
  }
}
