import java.util.ArrayList;
import java.util.Arrays;
import java.util.List;

/**
 * An object behind a run of calls. Of two twins one gets one call more; if that call changes nothing,
 * both answer alike to looks of every kind, also to those that change something themselves.
 */
final class Twin {
    private static final int MOST = 512, GROUPS = 8;

    private final BeadSchool school = new BeadSchool();
    private int calls = 0;

    int left() {
        return MOST - calls;
    }

    long call(String... words) {
        long[] a = new long[words.length - 1];
        for (int n = 0; n < a.length; n++) {
            a[n] = EdgeRun.number(words[n + 1]);
        }
        calls++;
        return Calls.of(school, words[0], a);
    }

    static void changesNothing(String what, Check check, List<String[]> sofar, String[] call, int fault) {
        compare(what, check, sofar, call, fault);
        // Once more behind a METHOD whose STEPS STAND: a refused call must not bar undo().
        List<String[]> more = new ArrayList<>(sofar);
        more.add(new String[] {"add", "0", "1"});
        Twin without = behind(sofar, null);
        Twin with = behind(more, null);
        boolean stands = without.left() > 1 && with.call("undo") >= 0;
        if (stands && behind(more, null).call(call) == without.call(call)) {
            compare(what + " (behind a METHOD)", check, more, call, fault);
        }
    }

    private static Twin behind(List<String[]> sofar, String[] call) {
        Twin t = new Twin();
        for (String[] c : sofar) {
            t.call(c);
        }
        if (call != null) {
            t.call(call);
            // The looks must end at the same place for both.
            t.calls--;
        }
        return t;
    }

    private static void compare(String what, Check check, List<String[]> sofar, String[] call, int fault) {
        Twin without = behind(sofar, null);
        Twin with = behind(sofar, call);
        check.due(what + ": told(4) then", with.call("told", "4"), without.call("told", "4") + (fault > 0 ? 1 : 0));
        long latest = without.call("fault");
        check.due(what + ": fault() then", with.call("fault"), fault > 0 ? fault : latest);
        for (int group = 0; group < GROUPS; group++) {
            List<Long> one = behind(sofar, null).looks(group);
            List<Long> other = behind(sofar, call).looks(group);
            int alike = 0;
            while (alike < Math.min(one.size(), other.size()) && one.get(alike).equals(other.get(alike))) {
                alike++;
            }
            check.due(what + ": changed nothing, by looks of group " + group, alike, Math.max(one.size(), other.size()));
        }
    }

    private final List<Long> seen = new ArrayList<>();

    // The last call of the 512 is the one that only one of both gets.
    private long look(Object... words) {
        if (left() <= 1) {
            return -1;
        }
        String[] call = Arrays.stream(words).map(String::valueOf).toArray(String[]::new);
        long got = call(call);
        seen.add(got);
        return got;
    }

    private List<Long> looks(int group) {
        switch (group) {
            case 0: counts(); break;
            case 1: frames(); break;
            case 2: tallies(); break;
            case 3: parts(); break;
            case 4: steps(); break;
            case 5: undoing(); break;
            case 6: fixing(); break;
            default: exercises(); break;
        }
        return seen;
    }

    private void counts() {
        for (int what : new int[] {0, 1, 2, 3, 5, 6}) {
            look("told", what);
        }
        look("trace");
        look("copied");
        look("steps");
        for (int what = 0; what < 3; what++) {
            look("stuck", what);
        }
        look("slip");
        look("lapse");
        look("frame", 2, 1);
        look("exercise", 0, 5);
        look("pupil", 0, 0, 0, 0);
        look("begin");
    }

    private void frames() {
        long many = look("told", 0);
        for (int f = 0; f < many; f++) {
            look("digest", f);
            for (int what = 0; what < 5; what++) {
                look("size", f, what);
            }
            look("proper", f);
        }
        for (int f = 0; f < many; f++) {
            look("asks", f, 0);
            look("asks", f, 2);
            look("trace");
        }
    }

    private void tallies() {
        for (int i = 0; i < 19; i++) {
            for (int reason = 1; reason < 5; reason++) {
                look("tally", i, reason);
            }
        }
    }

    private void parts() {
        for (int i = 0; i < 10; i++) {
            for (int j = 0; j < 5; j++) {
                if (look("part", i, j) == BeadSchool.LOST) {
                    look("fault");
                }
            }
        }
    }

    private void steps() {
        long many = look("steps");
        for (int k = 0; k < many; k++) {
            for (int what = 0; what < 7; what++) {
                look("step", k, what);
            }
        }
    }

    private void undoing() {
        for (int n = 0; n < 20 && look("undo") >= 0; n++) {
            look("shows", 0);
        }
        frames();
    }

    private void fixing() {
        for (int n = 0; n < 20 && look("fix") >= 0; n++) {
            look("lapse");
        }
        look("told", 5);
        look("begin");
    }

    private void exercises() {
        long many = look("told", 1);
        for (long e = Math.max(0, many - 4); e < many; e++) {
            look("fillings", e);
            for (int p = 0; p < 12; p++) {
                look("place", e, p);
                look("answer", e, p);
            }
        }
    }
}
