import java.io.ByteArrayOutputStream;
import java.io.IOException;
import java.net.URL;
import java.net.URLClassLoader;
import java.nio.charset.StandardCharsets;
import java.nio.file.Files;
import java.nio.file.Path;
import java.util.ArrayList;
import java.util.Comparator;
import java.util.List;
import java.util.Set;
import java.util.TreeSet;
import java.util.concurrent.TimeUnit;
import java.util.regex.Matcher;
import java.util.regex.Pattern;
import java.util.stream.Stream;
import javax.tools.JavaCompiler;
import javax.tools.ToolProvider;

/**
 * What README.md shows: each example compiles as it stands, each call in it tells its answer and
 * answers so, the list of calls is the document's face, and the commands work.
 */
public final class MotesReadmeTest {
  private static final Path README = Path.of("README.md");
  private static final Path DOC = Path.of("../shared/DOC.md");
  private static final Check CHECK = new Check();

  /** A call alone, or with a name for its answer; behind it the answer that README.md tells. */
  private static final Pattern ASKED = Pattern.compile(
      "(?:int (\\w+) = )?(x\\.\\w+\\([^;]*\\));\\s+// (-?\\d+)(?:: .+)?");

  public static void main(String[] args) throws Exception {
    String readme = Files.readString(README);
    Path out = Files.createTempDirectory("readme");
    try {
      examples(blocks(readme, "java"), out);
      listOfCalls(readme);
      commands(blocks(readme, "sh"), out);
      testsNamed(readme);
    } finally {
      remove(out);
    }
    CHECK.end();
  }

  private static List<String> blocks(String text, String language) {
    List<String> found = new ArrayList<>();
    Matcher m = Pattern.compile("(?ms)^```" + language + "\n(.*?)^```$").matcher(text);
    while (m.find()) {
      found.add(m.group(1));
    }
    return found;
  }

  private static void examples(List<String> blocks, Path out) throws Exception {
    CHECK.that("README.md shows the use of the class", !blocks.isEmpty());
    for (int i = 0; i < blocks.size(); i++) {
      example(blocks.get(i), "Example" + i, out);
    }
  }

  private static void example(String block, String name, Path out) throws Exception {
    List<String> calls = new ArrayList<>();
    List<Long> told = new ArrayList<>();
    StringBuilder asking = new StringBuilder();
    for (String line : block.split("\n")) {
      Matcher asked = ASKED.matcher(line);
      if (asked.matches()) {
        calls.add(asked.group(2));
        told.add(Long.parseLong(asked.group(3)));
        asking.append(noted(asked.group(1), asked.group(2)));
      } else {
        CHECK.that("README.md tells the answer: " + line,
            !line.contains("x.") || line.startsWith("for ("));
        asking.append(line).append('\n');
      }
    }
    CHECK.that("README.md asks something: " + block, !calls.isEmpty());
    boolean compiled = compiles(out, name + "Shown", "static void use() {\n" + block + "}")
        & compiles(out, name, "public static void use(java.util.List<Long> answers) {\n"
            + asking + "}");
    CHECK.that("this compiles:\n" + block, compiled);
    if (compiled) {
      answersAre(calls, told, answers(out, name));
    }
  }

  private static String noted(String variable, String call) {
    return variable == null
        ? "answers.add(Long.valueOf(" + call + "));\n"
        : "int " + variable + " = " + call + "; answers.add(Long.valueOf(" + variable + "));\n";
  }

  private static boolean compiles(Path out, String name, String method) throws IOException {
    Path file = out.resolve(name + ".java");
    Files.writeString(file, "public final class " + name + " {\n" + method + "\n}\n");
    JavaCompiler javac = ToolProvider.getSystemJavaCompiler();
    CHECK.that("there is a compiler", javac != null);
    ByteArrayOutputStream said = new ByteArrayOutputStream();
    boolean fine = javac != null && javac.run(null, said, said, "-Xlint:all", "-Werror", "-d",
        out.toString(), "-cp", System.getProperty("java.class.path"), file.toString()) == 0;
    System.out.print(said.toString(StandardCharsets.UTF_8));
    return fine;
  }

  private static List<Long> answers(Path out, String name) throws Exception {
    List<Long> answers = new ArrayList<>();
    try (URLClassLoader loader = new URLClassLoader(new URL[] {out.toUri().toURL()},
        MotesReadmeTest.class.getClassLoader())) {
      loader.loadClass(name).getMethod("use", List.class).invoke(null, answers);
    }
    return answers;
  }

  private static void answersAre(List<String> calls, List<Long> told, List<Long> answers) {
    CHECK.due("how many answers", answers.size(), told.size());
    for (int i = 0; i < told.size() && i < answers.size(); i++) {
      CHECK.due("README.md: " + calls.get(i), answers.get(i), told.get(i));
    }
  }

  /** Each call of the document's face stands once in the table, with the document's names. */
  private static void listOfCalls(String readme) throws Exception {
    List<String> wanted = new ArrayList<>();
    Matcher face = Pattern.compile("(?m)^    public (?:int|long) (\\w+)\\((.*)\\);$")
        .matcher(Files.readString(DOC));
    while (face.find()) {
      wanted.add(face.group(1) + "(" + face.group(2).replaceAll("\\w+ (\\w+)", "$1") + ")");
    }
    List<String> shown = new ArrayList<>();
    Matcher row = Pattern.compile("(?m)^\\| (`.*`) \\| .+ \\|$").matcher(readme);
    while (row.find()) {
      Matcher call = Pattern.compile("`([^`]*)`").matcher(row.group(1));
      while (call.find()) {
        shown.add(call.group(1));
      }
    }
    Set<String> missing = new TreeSet<>(wanted);
    missing.removeAll(shown);
    Set<String> strange = new TreeSet<>(shown);
    strange.removeAll(wanted);
    CHECK.that("README.md lists " + missing, missing.isEmpty());
    CHECK.that("the face has " + strange, strange.isEmpty());
    CHECK.due("calls listed", shown.size(), wanted.size());
  }

  /** .ci/run runs this test, so it is only looked at; all else is run. */
  private static void commands(List<String> blocks, Path out) throws Exception {
    CHECK.that("README.md says how to run all tests", blocks.contains(".ci/run\n"));
    CHECK.that(".ci/run can be run", Files.isExecutable(Path.of(".ci/run")));
    for (int i = 0; i < blocks.size(); i++) {
      if (!blocks.get(i).equals(".ci/run\n")) {
        command(blocks.get(i), out, out.resolve("said" + i));
      }
    }
  }

  private static void command(String block, Path out, Path said) throws Exception {
    ProcessBuilder bash = new ProcessBuilder("bash", "-e", "-c", block);
    bash.environment().put("TMPDIR", out.toString());
    bash.redirectErrorStream(true).redirectOutput(said.toFile());
    Process running = bash.start();
    boolean ended = running.waitFor(5, TimeUnit.MINUTES);
    if (!ended) {
      running.destroyForcibly();
    }
    boolean fine = ended && running.exitValue() == 0;
    CHECK.that("this runs:\n" + block + (fine ? "" : Files.readString(said)), fine);
  }

  private static void testsNamed(String readme) throws IOException {
    try (Stream<Path> tests = Files.list(Path.of("src/test/java"))) {
      for (Path test : tests.filter(p -> p.toString().endsWith("Test.java")).toList()) {
        String name = test.getFileName().toString().replace(".java", "");
        CHECK.that("README.md names " + name, readme.contains("`" + name + "`"));
      }
    }
  }

  private static void remove(Path directory) throws IOException {
    try (Stream<Path> all = Files.walk(directory)) {
      for (Path path : all.sorted(Comparator.reverseOrder()).toList()) {
        Files.delete(path);
      }
    }
  }
}
