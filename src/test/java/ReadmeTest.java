import java.lang.reflect.Method;
import java.lang.reflect.Modifier;
import java.net.URL;
import java.net.URLClassLoader;
import java.nio.file.Files;
import java.nio.file.Path;
import java.util.HashSet;
import java.util.List;
import java.util.Set;
import java.util.regex.Matcher;
import java.util.regex.Pattern;
import javax.tools.ToolProvider;

/**
 * What README.md shows must be what the class answers: its Java blocks are compiled and run, and the number or
 * name that a comment behind a call begins with is held against the answer. Every call of the face is shown.
 */
public final class ReadmeTest {
    private static final Pattern SHOWN = Pattern.compile(
            "(?:(?:int|long) (\\w+) = )?(school\\.(\\w+)\\(.*\\));\\s+// (-?\\d+|[A-Z]+)(?:\\W.*)?");
    private static final String MADE = "BeadSchool school = new BeadSchool();";
    // Public, as the compiled blocks come from another loader.
    public static final class Held {
        private static final Check CHECK = new Check("readme");

        private Held() {
        }

        public static void due(String what, long got, long want) {
            CHECK.due(what, got, want);
        }
    }

    private final StringBuilder program = new StringBuilder();
    private final Set<String> names = new HashSet<>();
    private boolean open = false;

    private ReadmeTest() {
    }

    public static void main(String[] args) throws Exception {
        String file = System.getenv("BEAD_SCHOOL_README");
        String text = Files.readString(Path.of(file == null ? "README.md" : file));
        ReadmeTest t = new ReadmeTest();
        t.begin();
        Matcher block = Pattern.compile("```java\n(.*?)```", Pattern.DOTALL).matcher(text);
        while (block.find()) {
            for (String line : block.group(1).split("\n")) {
                t.line(line.trim());
            }
        }
        t.everyCallShown();
        t.runAll();
        Held.CHECK.end();
    }

    private void begin() {
        program.append("public final class ReadmeRun {\n");
    }

    /** A new object begins a method of its own, so that names may be used again. */
    private void line(String line) {
        if (line.equals(MADE)) {
            program.append(open ? "}\n" : "").append("public static void run").append(program.length()).append("() {\n");
            open = true;
        }
        Matcher m = SHOWN.matcher(line);
        if (m.matches()) {
            names.add(m.group(3));
            String want = m.group(4).matches("-?\\d+") ? m.group(4) + "L" : "BeadSchool." + m.group(4);
            String call = m.group(1) == null ? m.group(2) : m.group(1);
            program.append(m.group(1) == null ? "" : line.substring(0, line.indexOf(';') + 1)).append("\n");
            program.append("ReadmeTest.Held.due(\"").append(m.group(2).replace("\"", "'")).append("\", ")
                    .append(call).append(", ").append(want).append(");\n");
            return;
        }
        Held.CHECK.holds("'" + line + "' shows what is answered",
                line.equals(MADE) || line.startsWith("for (") || !line.contains("school."));
        program.append(line).append("\n");
    }

    private void everyCallShown() {
        for (Method m : BeadSchool.class.getDeclaredMethods()) {
            if (Modifier.isPublic(m.getModifiers())) {
                Held.CHECK.holds(m.getName() + "() is shown", names.contains(m.getName()));
            }
        }
    }

    private void runAll() throws Exception {
        program.append("}\n}\n");
        Path folder = Files.createTempDirectory("readme");
        Path source = folder.resolve("ReadmeRun.java");
        Path made = folder.resolve("ReadmeRun.class");
        Files.writeString(source, program);
        int failed = ToolProvider.getSystemJavaCompiler().run(null, null, null,
                "-cp", System.getProperty("java.class.path"), "-d", folder.toString(), source.toString());
        Held.CHECK.due("README.md compiles", failed, 0);
        if (failed == 0) {
            try (URLClassLoader loader = new URLClassLoader(new URL[] {folder.toUri().toURL()})) {
                for (Method m : loader.loadClass("ReadmeRun").getDeclaredMethods()) {
                    m.invoke(null);
                }
            }
        }
        for (Path p : List.of(made, source, folder)) {
            Files.deleteIfExists(p);
        }
    }
}
