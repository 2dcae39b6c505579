import java.lang.reflect.Constructor;
import java.lang.reflect.Field;
import java.lang.reflect.Method;
import java.lang.reflect.Modifier;
import java.nio.file.Files;
import java.nio.file.Path;
import java.util.List;
import java.util.Set;
import java.util.TreeSet;
import java.util.regex.Matcher;
import java.util.regex.Pattern;

/** The public face, to the letter, as the document shows it. */
public final class FaceTest {
    private static final Check check = new Check("face");
    private static final String FACE = "int frame(int,int) int both(int,int) int rod(int,int,int) int push(int,int,int,int) "
            + "int beads(int,int,int) int digit(int,int) long shows(int) int set(int,long) int proper(int) int size(int,int) "
            + "int meant(int,int) int asks(int,int) int trace() int copy(int,int,int,int,int) int copied() long digest(int) "
            + "int ofFloat(int,int) int ofDouble(int,long) int restFloat(int,int) long restDouble(long,long) int add(int,long) "
            + "int less(int,long) int times(int,long) int divide(int,int,long) int root(int,int) int cube(int,int) "
            + "int turn(int,int) long part(int,int) int tally(int,int) int steps() int step(int,int) int stuck(int) int undo() "
            + "int pupil(int,int,int,int) int begin() int slip() int lapse() int fix() int exercise(int,int) int place(int,int) "
            + "int fillings(int) int answer(int,int) int told(int) int fault()";

    private FaceTest() {
    }

    public static void main(String[] args) throws Exception {
        face();
        String document = System.getenv("BEAD_SCHOOL_DOC");
        Path path = Path.of(document == null ? "../shared/DOC.md" : document);
        if (Files.exists(path)) {
            document(Files.readString(path));
        }
        constants();
        members();
        check.end();
    }

    private static void face() {
        Set<String> want = new TreeSet<>(List.of(FACE.replaceAll("(\\)) ", "$1;").split(";")));
        Set<String> got = new TreeSet<>();
        for (Method m : BeadSchool.class.getDeclaredMethods()) {
            if (Modifier.isPublic(m.getModifiers())) {
                StringBuilder s = new StringBuilder(m.getReturnType() + " " + m.getName() + "(");
                for (Class<?> p : m.getParameterTypes()) {
                    s.append(s.charAt(s.length() - 1) == '(' ? "" : ",").append(p);
                }
                got.add(s.append(')').toString());
            }
        }
        check.holds("the face: " + got, got.equals(want));
        check.due("how many", got.size(), 44);
        check.holds("final", Modifier.isFinal(BeadSchool.class.getModifiers()));
    }

    /** What the document itself tells of the face: its public methods, and once more each promise's head. */
    private static void document(String text) {
        Set<String> want = new TreeSet<>(List.of(FACE.replaceAll("(\\)) ", "$1;").split(";")));
        Set<String> shown = new TreeSet<>();
        Matcher line = Pattern.compile("public (int|long) (\\w+)\\((.*)\\);").matcher(text);
        while (line.find()) {
            shown.add(signature(line));
        }
        check.holds("the document's face: " + shown, shown.equals(want));
        Set<String> promised = new TreeSet<>();
        Matcher head = Pattern.compile("## Promise \\d+: \\w+\\s+`(int|long) (\\w+)\\((.*)\\)`:").matcher(text);
        while (head.find()) {
            promised.add(signature(head));
        }
        check.holds("the promises' heads: " + promised, promised.equals(want));
    }

    private static String signature(Matcher m) {
        return m.group(1) + " " + m.group(2) + "(" + m.group(3).replaceAll(" \\w+(, |$)", "$1").replace(", ", ",") + ")";
    }

    private static void constants() throws ReflectiveOperationException {
        String[] ints = {"UNKNOWN", "OUTSIDE", "NO", "FULL", "NONE"};
        for (int n = 0; n < ints.length; n++) {
            Field f = BeadSchool.class.getField(ints[n]);
            check.holds(ints[n] + " is an int", f.getType() == int.class);
            check.due(ints[n], f.getInt(null), -1 - n);
        }
        Field lost = BeadSchool.class.getField("LOST");
        check.holds("LOST is a long", lost.getType() == long.class);
        check.due("LOST", lost.getLong(null), Long.MIN_VALUE);
    }

    private static void members() {
        Set<String> open = new TreeSet<>();
        for (Field f : BeadSchool.class.getDeclaredFields()) {
            int m = f.getModifiers();
            check.holds(f.getName() + ": a static field is final", !Modifier.isStatic(m) || Modifier.isFinal(m));
            if (!Modifier.isPrivate(m)) {
                open.add(f.getName());
            }
        }
        check.holds("constants: " + open, open.equals(Set.of("UNKNOWN", "OUTSIDE", "NO", "FULL", "NONE", "LOST")));
        Set<String> names = new TreeSet<>();
        for (Method m : BeadSchool.class.getDeclaredMethods()) {
            if (Modifier.isPublic(m.getModifiers())) {
                names.add(m.getName());
            }
        }
        for (Method m : BeadSchool.class.getDeclaredMethods()) {
            int f = m.getModifiers();
            check.holds(m.getName() + " is public or private", Modifier.isPublic(f) || Modifier.isPrivate(f));
            check.holds(m.getName() + " bears no public name", Modifier.isPublic(f) || !names.contains(m.getName()));
        }
        Constructor<?>[] made = BeadSchool.class.getDeclaredConstructors();
        check.holds("one constructor", made.length == 1 && Modifier.isPublic(made[0].getModifiers()));
    }
}
