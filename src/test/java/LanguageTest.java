import java.io.IOException;
import java.nio.file.Files;
import java.nio.file.Path;
import java.util.List;

/** Some rules of ../shared/LANGUAGE.md that the text of the program can be searched for. */
public final class LanguageTest {

  private static final Path PROGRAM = Path.of("src/main/java/BiscuitLocks.java");
  /** Java that the rules leave out, and catching, which this program does not need. */
  private static final List<String> LEFT_OUT = List.of(
      "->", "::", "try {", "try (", "catch", "finally", "synchronized", "assert", "static {",
      "Exact(", "package ", "\" +", "+ \"", "hashCode", "toString", "NaN", "Object", "System.out",
      "getMessage", "new Thread", "Random", "nanoTime", "currentTimeMillis");

  public static void main(String[] args) throws IOException {
    List<String> lines = Files.readAllLines(PROGRAM);
    int length = 0;
    for (int number = 1; number <= lines.size(); number++) {
      String line = lines.get(number - 1);
      searchLine(number, line.trim().startsWith("*") ? "" : line);
      length = line.matches("  (  )?}") ? 0 : length + 1;
      boolean inMethod = line.startsWith("      ");
      Check.same("line " + number + " is in a short method", inMethod && length > 60, false);
    }
    Check.same("the imports", lines.stream().filter(line -> line.startsWith("import ")).toList(),
        List.of("import java.util.NoSuchElementException;"));
    Check.finish();
  }

  private static void searchLine(int number, String line) {
    for (String word : LEFT_OUT) {
      Check.same("line " + number + " holds " + word, line.contains(word), false);
    }
    for (char character : line.toCharArray()) {
      Check.same("line " + number + " holds plain characters", character < 128, true);
    }
  }
}
