import java.lang.reflect.Method;
import java.lang.reflect.Modifier;
import java.net.URL;
import java.net.URLClassLoader;
import java.nio.file.Files;
import java.nio.file.Path;
import java.util.ArrayList;
import java.util.List;
import java.util.function.Supplier;
import java.util.regex.Matcher;
import java.util.regex.Pattern;
import javax.tools.ToolProvider;

/**
 * The calls that README.md shows, and what it says that they answer. All its Java is one program; a
 * line whose comment begins with an answer is asked for that answer.
 */
public final class ReadmeTest {

  private static final String PROGRAM = "ReadmeCalls";
  /** A declaration if there is one, the call, and its answer, which ends before a colon. */
  private static final Pattern ANSWERED =
      Pattern.compile("((?:\\w+ \\w+ = )?)(.+); +// ((?:throws )?)(\\S+)(?:: .*)?");

  private final List<String> calls = new ArrayList<>();
  private final List<String> due = new ArrayList<>();
  private final StringBuilder body = new StringBuilder();

  public static void main(String[] arguments) throws Exception {
    List<String> page = Files.readAllLines(Path.of("README.md"));
    new ReadmeTest().compare(page);
    namesEveryMethod(String.join("\n", page));
    Check.finish();
  }

  private void compare(List<String> page) throws Exception {
    boolean inJava = false;
    for (String line : page) {
      if (line.startsWith("```")) {
        inJava = line.equals("```java");
      } else if (inJava) {
        addLine(line);
      }
    }
    List<String> answers = answersOf(body.toString());
    Check.same("that README.md shows calls", due.size() > 40, true);
    Check.same("the number of answers", answers.size(), due.size());
    for (int number = 0; number < Math.min(answers.size(), due.size()); number++) {
      Check.same("README.md: " + calls.get(number), answers.get(number), due.get(number));
    }
  }

  private void addLine(String line) {
    Matcher answered = ANSWERED.matcher(line.strip());
    if (!answered.matches()) {
      Check.same("that the answer can be read in: " + line, line.contains("//"), false);
      body.append(line).append('\n');
      return;
    }
    calls.add(line);
    due.add(answered.group(3) + answered.group(4));
    if (answered.group(3).isEmpty()) {
      addAnswering(answered.group(1), answered.group(2));
    } else {
      addThrowing(answered.group(2));
    }
  }

  private void addAnswering(String declaration, String call) {
    String value = call;
    if (!declaration.isEmpty()) {
      body.append(declaration).append(call).append(";\n");
      value = declaration.split(" ")[1];
    }
    body.append("answers.add(String.valueOf(").append(value).append("));\n");
  }

  private void addThrowing(String call) {
    body.append("try {\n").append(call).append(";\nanswers.add(\"nothing thrown\");\n");
    body.append("} catch (RuntimeException thrown) {\n");
    body.append("answers.add(\"throws \" + thrown.getClass().getSimpleName());\n}\n");
  }

  private static List<String> answersOf(String body) throws Exception {
    String source = "import java.util.*;\n"
        + "public final class " + PROGRAM
        + " implements java.util.function.Supplier<List<String>> {\n"
        + "public List<String> get() {\nList<String> answers = new ArrayList<>();\n"
        + body + "return answers;\n}\n}\n";
    Path folder = Files.createTempDirectory("readme");
    Path file = Files.writeString(folder.resolve(PROGRAM + ".java"), source);
    try {
      int exit = ToolProvider.getSystemJavaCompiler().run(null, null, null,
          "-cp", System.getProperty("java.class.path"), "-d", folder.toString(), file.toString());
      Check.same("what the compiler answers for the calls of README.md", exit, 0);
      return exit == 0 ? run(folder) : List.of();
    } finally {
      Files.deleteIfExists(file);
      Files.deleteIfExists(folder.resolve(PROGRAM + ".class"));
      Files.deleteIfExists(folder);
    }
  }

  @SuppressWarnings("unchecked")
  private static List<String> run(Path folder) throws Exception {
    try (URLClassLoader loader = new URLClassLoader(new URL[] {folder.toUri().toURL()})) {
      Class<?> program = loader.loadClass(PROGRAM);
      return ((Supplier<List<String>>) program.getConstructor().newInstance()).get();
    }
  }

  private static void namesEveryMethod(String page) {
    for (Method method : BiscuitLocks.class.getDeclaredMethods()) {
      if (Modifier.isPublic(method.getModifiers())) {
        String name = method.getName();
        boolean named = page.contains("`" + name + "`") || page.contains("house." + name + "(");
        Check.same("that README.md names " + name, named, true);
      }
    }
  }
}
