import com.sun.source.tree.CompilationUnitTree;
import com.sun.source.util.JavacTask;
import com.sun.source.util.Trees;
import java.io.IOException;
import java.nio.charset.StandardCharsets;
import java.nio.file.Path;
import java.util.List;
import java.util.Map;
import javax.tools.JavaCompiler;
import javax.tools.StandardJavaFileManager;
import javax.tools.ToolProvider;

/** The rules of the language, by their numbers; what no text tells (7, 12, the guard of 8) is for runs and reader. */
public final class LanguageTest {
    private static final Check CHECK = new Check("LanguageTest");
    private static final int RULES = 13;

    public static void main(String[] args) throws IOException {
        Map<Integer, List<String>> found = broken(FaceTest.SOURCE);
        for (int rule = 1; rule <= RULES; rule++) {
            CHECK.due("rule " + rule, found.getOrDefault(rule, List.of()), List.of());
        }
        CHECK.close();
    }

    private static Map<Integer, List<String>> broken(Path source) throws IOException {
        JavaCompiler compiler = ToolProvider.getSystemJavaCompiler();
        try (StandardJavaFileManager files = compiler.getStandardFileManager(null, null, StandardCharsets.UTF_8)) {
            JavacTask task = (JavacTask) compiler.getTask(null, files, null,
                    List.of("--release", "17", "-proc:none"), null, files.getJavaFileObjects(source));
            CompilationUnitTree unit = task.parse().iterator().next();
            task.analyze();
            CHECK.due("rule 1: no package line", unit.getPackage(), null);
            CHECK.due("rule 1: one class in the file", unit.getTypeDecls().size(), 1);
            return new LanguageRules(Trees.instance(task), unit).check();
        }
    }
}
