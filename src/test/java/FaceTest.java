import java.lang.reflect.Constructor;
import java.lang.reflect.Field;
import java.lang.reflect.Method;
import java.lang.reflect.Modifier;
import java.nio.file.Files;
import java.nio.file.Path;
import java.util.List;
import java.util.Set;
import java.util.TreeSet;

/** The public face, to the letter, and what a text search can tell of LANGUAGE.md. */
public final class FaceTest {
    private static final Check check = new Check("face");
    private static final String FACE = "int frame(int,int) int both(int,int) int rod(int,int,int) int push(int,int,int,int) "
            + "int beads(int,int,int) int digit(int,int) long shows(int) int set(int,long) int proper(int) int size(int,int) "
            + "int meant(int,int) int asks(int,int) int trace() int copy(int,int,int,int,int) int copied() long digest(int) "
            + "int ofFloat(int,int) int ofDouble(int,long) int restFloat(int,int) long restDouble(long,long) int add(int,long) "
            + "int less(int,long) int times(int,long) int divide(int,int,long) int root(int,int) int cube(int,int) "
            + "int turn(int,int) long part(int,int) int tally(int,int) int steps() int step(int,int) int stuck(int) int undo() "
            + "int pupil(int,int,int,int) int begin() int slip() int lapse() int fix() int exercise(int,int) int place(int,int) "
            + "int fillings(int) int answer(int,int) int told(int) int fault()";

    private FaceTest() {
    }

    public static void main(String[] args) throws Exception {
        face();
        members();
        nested();
        String file = System.getenv("BEAD_SCHOOL");
        text(Files.readString(Path.of(file == null ? "src/main/java/BeadSchool.java" : file)));
        check.end();
    }

    private static void face() {
        Set<String> want = new TreeSet<>(List.of(FACE.replaceAll("(\\)) ", "$1;").split(";")));
        Set<String> got = new TreeSet<>();
        for (Method m : BeadSchool.class.getDeclaredMethods()) {
            if (Modifier.isPublic(m.getModifiers())) {
                StringBuilder s = new StringBuilder(m.getReturnType() + " " + m.getName() + "(");
                for (Class<?> p : m.getParameterTypes()) {
                    s.append(s.charAt(s.length() - 1) == '(' ? "" : ",").append(p);
                }
                got.add(s.append(')').toString());
            }
        }
        check.holds("the face: " + got, got.equals(want));
        check.due("how many", got.size(), 44);
        check.holds("final", Modifier.isFinal(BeadSchool.class.getModifiers()));
    }

    private static void members() {
        Set<String> open = new TreeSet<>();
        for (Field f : BeadSchool.class.getDeclaredFields()) {
            int m = f.getModifiers();
            check.holds(f.getName() + ": a static field is final", !Modifier.isStatic(m) || Modifier.isFinal(m));
            if (!Modifier.isPrivate(m)) {
                open.add(f.getName());
            }
        }
        check.holds("constants: " + open, open.equals(Set.of("UNKNOWN", "OUTSIDE", "NO", "FULL", "NONE", "LOST")));
        Set<String> names = new TreeSet<>();
        for (Method m : BeadSchool.class.getDeclaredMethods()) {
            if (Modifier.isPublic(m.getModifiers())) {
                names.add(m.getName());
            }
        }
        for (Method m : BeadSchool.class.getDeclaredMethods()) {
            int f = m.getModifiers();
            check.holds(m.getName() + " is public or private", Modifier.isPublic(f) || Modifier.isPrivate(f));
            check.holds(m.getName() + " bears no public name", Modifier.isPublic(f) || !names.contains(m.getName()));
            check.holds(m.getName() + " takes seven at most", m.getParameterCount() <= 7);
        }
        Constructor<?>[] made = BeadSchool.class.getDeclaredConstructors();
        check.holds("one constructor", made.length == 1 && Modifier.isPublic(made[0].getModifiers()));
    }

    private static void nested() {
        Class<?>[] inside = BeadSchool.class.getDeclaredClasses();
        check.holds("twelve classes at most", inside.length <= 11);
        for (Class<?> c : inside) {
            check.holds(c + " is private and static", Modifier.isPrivate(c.getModifiers()) && Modifier.isStatic(c.getModifiers()));
            check.holds(c + " has twenty fields at most", c.getDeclaredFields().length <= 20);
        }
    }

    private static void text(String source) {
        String[] never = {"->", "::", "Exact(", "catch", "finally", "synchronized", "assert", "throw", "package ", "System.",
            "Float.", "Double.", "Object", "hashCode", "toString", "static {", "import java.util.*", "enum ", "native", "Thread"};
        for (String s : never) {
            check.holds("no " + s, !source.contains(s));
        }
        check.holds("one import", source.indexOf("import ") == source.lastIndexOf("import "));
        check.holds("that of Arrays", source.startsWith("import java.util.Arrays;"));
        for (int n = 0; n < source.length(); n++) {
            if (source.charAt(n) > 126) {
                check.holds("plain signs", false);
            }
        }
        int begun = 0;
        String[] lines = source.split("\n");
        for (int n = 0; n < lines.length; n++) {
            if (lines[n].matches(" {4,8}(private |public |static |final )*[A-Za-z\\[\\]]+ ?[A-Za-z]*\\(.*\\) \\{")) {
                begun = n;
            }
            if (lines[n].matches(" {4,8}\\}")) {
                check.holds("a method of sixty lines at most at " + n, n - begun <= 60 || lines[n].equals("    }"));
            }
        }
    }
}
