import java.util.ArrayList;
import java.util.Arrays;
import java.util.List;
import java.util.Map;

/**
 * A run of calls on a new object, a line each:
 *   set 0 47            the call, whatever it answers
 *   set 0 47 = 1        it answers this
 *   set 9 47 ! UNKNOWN  it answers this and has changed nothing (a FAULT is counted, though)
 *   shows 0 ! LOST NULL the same, by this FAULT
 *   30 x frame 0 1      the call so many times
 *   row 0 = 0 1 ..      what step() tells of STEP 0, all seven
 *   beads? 0 = 1 4 0 ..  LOWER and UPPER of RODS 0, 1, ..
 * Numbers may be names (see NAMES), f:1.5 and d:1.5 are bits of a float and a double.
 */
final class EdgeRun {
    private static final Map<String, Long> NAMES = Map.ofEntries(
            Map.entry("UNKNOWN", -1L), Map.entry("OUTSIDE", -2L), Map.entry("NO", -3L),
            Map.entry("FULL", -4L), Map.entry("NONE", -5L), Map.entry("NULL", -11L),
            Map.entry("BEYOND", -12L), Map.entry("CAST", -13L), Map.entry("SIZE", -14L),
            Map.entry("ZERO", -15L), Map.entry("LOST", Long.MIN_VALUE),
            Map.entry("MIN", (long) Integer.MIN_VALUE), Map.entry("MAX", (long) Integer.MAX_VALUE),
            Map.entry("LMIN", Long.MIN_VALUE), Map.entry("LMAX", Long.MAX_VALUE));

    private final String name;
    private final Check check;
    private final Twin school = new Twin();
    private final List<String[]> sofar = new ArrayList<>();

    EdgeRun(String name, Check check) {
        this.name = name;
        this.check = check;
    }

    void all(String run) {
        for (String line : run.split("\n")) {
            if (!line.isBlank()) {
                one(line.trim());
            }
        }
        check.holds(name + ": 512 calls at most", school.left() >= 0);
    }

    private void one(String line) {
        String[] words = line.split("\\s+");
        int times = 1;
        if (words.length > 1 && words[1].equals("x")) {
            times = Integer.parseInt(words[0]);
            words = Arrays.copyOfRange(words, 2, words.length);
        }
        int sign = Math.max(Arrays.asList(words).indexOf("="), Arrays.asList(words).indexOf("!"));
        String[] call = sign < 0 ? words : Arrays.copyOf(words, sign);
        String[] want = sign < 0 ? new String[0] : Arrays.copyOfRange(words, sign + 1, words.length);
        check.holds(name + ": " + line + " can be read", sign < 0 || want.length > 0);
        for (int n = 0; n < times; n++) {
            if (call[0].equals("row")) {
                many(line, "step", call[1], want, false);
            } else if (call[0].equals("beads?")) {
                many(line, "beads", call[1], want, true);
            } else {
                single(line, call, sign < 0 ? "" : words[sign], want);
            }
        }
    }

    private void many(String line, String call, String of, String[] want, boolean pairs) {
        for (int n = 0; n < want.length; n++) {
            String[] one = pairs ? new String[] {call, of, "" + n / 2, "" + n % 2} : new String[] {call, of, "" + n};
            single(line + " at " + n, one, "=", new String[] {want[n]});
        }
    }

    private void single(String line, String[] call, String sign, String[] want) {
        if (sign.equals("!")) {
            long fault = want.length > 1 ? number(want[1]) : number(want[0]);
            Twin.changesNothing(name + ": " + line, check, sofar, call, fault <= -11 && fault >= -15 ? (int) (-10 - fault) : 0);
        }
        long got = school.call(call);
        sofar.add(call);
        if (want.length > 0) {
            check.due(name + ": " + line, got, number(want[0]));
        }
    }

    static long number(String word) {
        Long named = NAMES.get(word);
        if (named != null) {
            return named;
        }
        if (word.startsWith("f:")) {
            return Float.floatToRawIntBits(Float.parseFloat(word.substring(2)));
        }
        if (word.startsWith("d:")) {
            return Double.doubleToRawLongBits(Double.parseDouble(word.substring(2)));
        }
        return Long.decode(word);
    }
}
