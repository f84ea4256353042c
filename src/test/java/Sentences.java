import java.io.IOException;
import java.nio.file.Files;
import java.nio.file.Path;
import java.util.LinkedHashSet;
import java.util.Set;

/**
 * Ties each test of a boundary to the sentence of ../shared/DOC.md that names it, so that neither a
 * sentence without a test nor a test of what the document does not say goes unseen.
 */
final class Sentences {

  private static final Path DOCUMENT = Path.of("../shared/DOC.md");

  /** They name no boundary, or one that another sentence of the same promise names in full. */
  private static final Set<String> WITHOUT_A_TEST = Set.of(
      "A simulation of locks that are baked of biscuit.",
      "Doors have locks with combinations on dials, damp air makes dials drift, tries with wrong"
          + " combinations crumble a lock, and ovens bake locks anew.",
      "The class finds the turns that open a lock in two ways, keeps a record of tries, and offers"
          + " predictions, rankings, a small command language, undo and a snapshot.",
      "It is not thread-safe.",
      "It has the form",
      "where braces mean zero or more repetitions, brackets an optional part, parentheses a group,"
          + " and a bar an alternative.",
      "Adds a door with a lock.",
      "Turns a dial.",
      "Shuts a lock.",
      "Sets the damp.",
      "Puts a lock into an oven.",
      "Lets hours pass.",
      "Returns whether a lock is open.",
      "Returns whether a lock is broken.",
      "Returns whether a lock is in an oven.",
      "Returns whether the lock opened in a try that is remembered.",
      "Returns the crumbs of a lock.",
      "Returns the play of a lock.",
      "Returns the door whose lock an oven bakes.",
      "Returns the door of a try that is remembered.",
      "Appends a character to the script buffer.",
      "Runs the script in the script buffer.",
      "- `door`: the index of the door",
      "- `dial`: the index of the dial",
      "- `oven`: the index of the oven",
      "- `damp`: the damp",
      "- `hours`: the number of hours",
      "- `index`: the index of the character",
      "- `character`: the character",
      "Returns the position.",
      "Returns the number of dials.",
      "Returns the number of steps.",
      "Returns the number of settings.",
      "Returns the number of locks.",
      "Returns the number of tries.",
      "Returns the number of bakings.",
      "Returns the mean.",
      "Returns the quotient.",
      "Returns the character.",
      "Returns the error position.");

  private static final Set<String> HELD = new LinkedHashSet<>();

  private Sentences() {
  }

  static void held(int promise, String sentence, Runnable test) {
    held("Promise " + promise, sentence, test);
  }

  /** Runs the test of a sentence in a part of the document, which is named by its heading. */
  static void held(String part, String sentence, Runnable test) {
    String name = part + ": " + sentence;
    Check.about("[" + name + "] ");
    Check.same("that it has one test", HELD.add(name), true);
    int before = Check.count();
    Check.same("what its test throws", Check.thrownBy(test), "nothing");
    Check.same("that its test checks something", Check.count() > before + 1, true);
    Check.about("");
  }

  /** Compares what was held with the document. The tests themselves do not need it. */
  static void compare() throws IOException {
    if (!Files.exists(DOCUMENT)) {
      System.out.println("no " + DOCUMENT + " to compare the sentences with");
      return;
    }
    Set<String> said = readDocument();
    Set<String> unused = new LinkedHashSet<>(WITHOUT_A_TEST);
    for (String name : said) {
      String sentence = name.substring(name.indexOf(": ") + 2);
      boolean tested = HELD.contains(name) || WITHOUT_A_TEST.contains(sentence);
      Check.same("that there is a test of [" + name + "]", tested, true);
      unused.remove(sentence);
    }
    for (String name : HELD) {
      Check.same("that the document says [" + name + "]", said.contains(name), true);
    }
    Check.same("the sentences without a test that the document does not say", unused.size(), 0);
    System.out.println(HELD.size() + " sentences of " + said.size() + " have a test of their own");
  }

  private static Set<String> readDocument() throws IOException {
    Set<String> said = new LinkedHashSet<>();
    String part = "";
    StringBuilder paragraph = new StringBuilder();
    for (String line : Files.readAllLines(DOCUMENT)) {
      boolean heading = line.startsWith("#") || line.startsWith("<h2>");
      if (heading || line.isBlank() || line.startsWith("- ")) {
        addSentences(said, part, paragraph);
      }
      if (heading) {
        part = line.replaceAll("^#+ |</?h2>", "").replaceAll("^(Promise [0-9]+): .*", "$1");
      } else {
        paragraph.append(line).append(' ');
      }
    }
    return said;
  }

  private static void addSentences(Set<String> said, String part, StringBuilder paragraph) {
    String text = paragraph.toString().strip();
    paragraph.setLength(0);
    // The face is what FaceTest compares, and what is not promised has no test.
    if (text.isEmpty() || part.equals("The public face") || part.equals("Not promised")) {
      return;
    }
    for (String sentence : text.split("(?<=[.:]) (?=[A-Z])")) {
      if (!sentence.matches("`[A-Za-z ]+\\(.*\\)( throws .*)?`:")) {
        said.add(part + ": " + sentence);
      }
    }
  }
}
