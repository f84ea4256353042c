import com.sun.source.tree.CompilationUnitTree;
import com.sun.source.util.JavacTask;
import com.sun.source.util.Trees;
import java.io.IOException;
import java.nio.file.Path;
import java.util.List;
import javax.tools.JavaCompiler;
import javax.tools.StandardJavaFileManager;
import javax.tools.ToolProvider;

/** The rules of ../shared/LANGUAGE.md that can be seen from the text of the program. */
public final class LanguageTest {

  private static final Path PROGRAM = Path.of("src/main/java/BiscuitLocks.java");

  /** Looks at the program, or at another one whose path is given. */
  public static void main(String[] arguments) throws IOException {
    Path program = arguments.length > 0 ? Path.of(arguments[0]) : PROGRAM;
    JavaCompiler compiler = ToolProvider.getSystemJavaCompiler();
    try (StandardJavaFileManager files = compiler.getStandardFileManager(null, null, null)) {
      JavacTask task = (JavacTask) compiler.getTask(
          null, files, null, List.of("-proc:none"), null, files.getJavaFileObjects(program));
      CompilationUnitTree unit = task.parse().iterator().next();
      task.analyze();
      LanguageRules rules = new LanguageRules(unit, Trees.instance(task));
      Check.same("the rules that are broken", rules.broken(), List.of());
    }
    Check.finish();
  }
}
