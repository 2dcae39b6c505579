import com.sun.source.tree.CompilationUnitTree;
import com.sun.source.util.JavacTask;
import com.sun.source.util.Trees;
import java.nio.file.Files;
import java.nio.file.Path;
import java.util.List;
import javax.tools.JavaCompiler;
import javax.tools.StandardJavaFileManager;
import javax.tools.ToolProvider;

/** The class held against the rules of LANGUAGE.md, by the compiler's own tree of it. */
public final class LanguageTest {
    private LanguageTest() {
    }

    public static void main(String[] args) throws Exception {
        String file = System.getenv("BEAD_SCHOOL");
        Path path = Path.of(file == null ? "src/main/java/BeadSchool.java" : file);
        Check check = new Check("language");
        Files.readString(path).chars().forEach(sign -> check.holds("rule 4: a sign of 1 to 127: " + sign, sign > 0 && sign < 128));
        JavaCompiler compiler = ToolProvider.getSystemJavaCompiler();
        try (StandardJavaFileManager files = compiler.getStandardFileManager(null, null, null)) {
            JavacTask task = (JavacTask) compiler.getTask(null, files, null, List.of("-proc:none"), null,
                    files.getJavaFileObjects(path));
            Iterable<? extends CompilationUnitTree> units = task.parse();
            task.analyze();
            for (CompilationUnitTree unit : units) {
                System.out.println("language: calls go " + new Rules(Trees.instance(task), unit, check).look() + " deep");
            }
        }
        check.end();
    }
}
