import java.io.IOException;
import java.nio.file.Files;
import java.nio.file.Path;
import java.util.regex.Matcher;
import java.util.regex.Pattern;
import javax.tools.ToolProvider;

/** The example of README.md, whose comments begin with what the call in their row answers. */
final class ReadmeTest {
  private static final Path README = Path.of("README.md");
  private static final Path PLACE = Path.of("build/readme");
  private static final Pattern EXAMPLE = Pattern.compile("```java\n(.*?)```", Pattern.DOTALL);
  private static final Pattern ANSWERED = Pattern.compile("(.*); +// ([^:]+).*");
  private static final int LEAST_ANSWERS = 10;

  private ReadmeTest() {}

  static void run() {
    Testing.test("README: the example answers what it says", ReadmeTest::example);
  }

  private static void example() {
    try {
      String code = "public final class Example {\n  public static void main(String[] arguments) {\n"
          + checked(exampleOf(Files.readString(README))) + "  }\n}\n";
      Path file = PLACE.resolve("Example.java");
      Files.createDirectories(PLACE);
      Files.writeString(file, code);
      runExample(file);
    } catch (IOException e) {
      throw new IllegalStateException(e);
    }
  }

  private static String exampleOf(String readme) {
    Matcher found = EXAMPLE.matcher(readme);
    Testing.same(true, found.find());
    return found.group(1);
  }

  private static String checked(String example) {
    StringBuilder code = new StringBuilder();
    int answers = 0;
    for (String row : example.split("\n")) {
      Matcher answered = ANSWERED.matcher(row);
      if (answered.matches()) {
        answers++;
        code.append("if (").append(answered.group(1)).append(" != ").append(answered.group(2))
            .append(") throw new IllegalStateException(\"due is ")
            .append(answered.group(2)).append(" of ").append(answered.group(1)).append("\");\n");
      } else {
        code.append(row).append('\n');
      }
    }
    Testing.same(true, answers >= LEAST_ANSWERS);
    return code.toString();
  }

  private static void runExample(Path file) throws IOException {
    int compiled = ToolProvider.getSystemJavaCompiler().run(null, null, null,
        "-d", PLACE.toString(), file.toString(), Program.FILE.toString());
    Testing.same(0, compiled);
    String java = Path.of(System.getProperty("java.home"), "bin", "java").toString();
    try {
      int ended = new ProcessBuilder(java, "-cp", PLACE.toString(), "Example").inheritIO().start()
          .waitFor();
      Testing.same(0, ended);
    } catch (InterruptedException e) {
      throw new IllegalStateException(e);
    }
  }
}
