import java.io.IOException;
import java.nio.file.Files;
import java.nio.file.Path;
import java.util.List;

/** Those rules of LANGUAGE.md that the text of the program shows. */
final class LanguageTest {
  private static final Path PROGRAM = Path.of("src/main/java/Patternroom.java");
  private static final int LONGEST_METHOD = 60;

  private LanguageTest() {}

  static void run() {
    Testing.test("rule 4: nothing is imported but what the rule lists", LanguageTest::imports);
    Testing.test("rules 2, 6, 13: no forbidden word or sign", LanguageTest::words);
    Testing.test("rule 3: plain signs alone", LanguageTest::signs);
    Testing.test("rule 11: methods are short", LanguageTest::lengths);
  }

  private static List<String> lines() {
    try {
      return Files.readAllLines(PROGRAM);
    } catch (IOException e) {
      throw new IllegalStateException(e);
    }
  }

  private static void imports() {
    List<String> allowed =
        List.of("import java.util.Arrays;", "import java.util.NoSuchElementException;");
    for (String line : lines()) {
      Testing.same(true, !line.startsWith("import ") || allowed.contains(line));
    }
  }

  private static void words() {
    String[] forbidden = {
      "->", "::", "package ", "finally", "synchronized", "assert", "try", "catch", "Exact(",
      "System.out", "System.current", "System.nano", "Random", "Thread", "static {"
    };
    for (String line : lines()) {
      for (String word : forbidden) {
        Testing.same(false, line.contains(word));
      }
    }
  }

  private static void signs() {
    for (String line : lines()) {
      Testing.same(true, line.chars().allMatch(sign -> sign >= 32 && sign < 127));
    }
  }

  /** A method ends with a brace as deep as it began: 2 signs in the class, 4 in a class inside. */
  private static void lengths() {
    int since = 0;
    for (String line : lines()) {
      boolean isEnd = line.equals("  }") || line.equals("    }");
      since = isEnd || line.isBlank() ? 0 : since + 1;
      Testing.same(true, since <= LONGEST_METHOD);
    }
  }
}
