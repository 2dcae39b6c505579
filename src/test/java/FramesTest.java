/** Promises 1 to 17: a new object, and frames. */
public final class FramesTest {
    private static final int UNKNOWN = -1, OUTSIDE = -2, NO = -3, FULL = -4, NONE = -5;
    private static final int NULL = -11, BEYOND = -12, CAST = -13, SIZE = -14;
    private static final int LOW = Integer.MIN_VALUE, HIGH = Integer.MAX_VALUE;
    private static final long LOST = Long.MIN_VALUE;
    private static final Check check = new Check("frames");

    private FramesTest() {
    }

    public static void main(String[] args) {
        newObject();
        constants();
        frame();
        both();
        rod();
        push();
        beadsAndDigit();
        shows();
        set();
        proper();
        size();
        meant();
        asksAndTrace();
        copyWithinOne();
        copyAcrossTwo();
        digest();
        sharedRods();
        faultsAreCounted();
        check.end();
    }

    private static void due(String what, long got, long want) {
        check.due(what, got, want);
    }

    private static void newObject() {
        BeadSchool x = new BeadSchool();
        for (int n = 0; n <= 6; n++) {
            due("1 told", x.told(n), 0);
        }
        due("1 fault", x.fault(), 0);
        due("1 trace", x.trace(), 0);
        due("1 copied", x.copied(), 0);
        due("1 steps", x.steps(), 0);
        due("1 step", x.step(0, 0), UNKNOWN);
        due("1 stuck by", x.stuck(0), 0);
        due("1 stuck rod", x.stuck(1), NONE);
        due("1 stuck frame", x.stuck(2), NONE);
        due("1 undo", x.undo(), NO);
        due("1 slip", x.slip(), NONE);
        due("1 lapse", x.lapse(), 0);
        due("1 fix", x.fix(), NO);
        due("1 begin", x.begin(), 0);
        due("1 shows", x.shows(0), LOST);
        due("1 digest", x.digest(0), LOST);
        due("1 size", x.size(0, 0), UNKNOWN);
        due("1 place", x.place(0, 0), UNKNOWN);
        due("1 no fault so far", x.fault(), 0);
        due("1 frame numbers begin at 0", x.frame(2, 1), 0);
    }

    private static void constants() {
        due("UNKNOWN", BeadSchool.UNKNOWN, -1);
        due("OUTSIDE", BeadSchool.OUTSIDE, -2);
        due("NO", BeadSchool.NO, -3);
        due("FULL", BeadSchool.FULL, -4);
        due("NONE", BeadSchool.NONE, -5);
        due("LOST", BeadSchool.LOST, Long.MIN_VALUE);
    }

    private static void frame() {
        BeadSchool x = new BeadSchool();
        due("2 five", x.frame(0, 18), 0);
        due("2 seven", x.frame(1, 18), 1);
        due("2 ten", x.frame(2, 18), 2);
        due("2 sixteen", x.frame(3, 14), 3);
        due("2 none", x.frame(3, 0), 4);
        due("2 kind 4", x.frame(4, 2), OUTSIDE);
        due("2 kind -1", x.frame(-1, 2), OUTSIDE);
        due("2 19 rods", x.frame(2, 19), OUTSIDE);
        due("2 15 rods", x.frame(3, 15), OUTSIDE);
        due("2 far too many rods", x.frame(0, HIGH), OUTSIDE);
        due("2 outside ahead of size", x.frame(9, -1), OUTSIDE);
        due("2 no fault yet", x.fault(), 0);
        due("2 size", x.frame(1, -1), SIZE);
        due("2 fault", x.fault(), 4);
        due("2 size, lowest", x.frame(3, LOW), SIZE);
        due("2 nothing came", x.told(0), 5);
        for (int n = 5; n < 30; n++) {
            due("2 number", x.frame(n % 4, 1), n);
        }
        due("2 full", x.frame(0, 1), FULL);
        due("2 outside ahead of full", x.frame(0, 19), OUTSIDE);
        due("2 full ahead of size", x.frame(0, -1), FULL);
        due("2 thirty", x.told(0), 30);
    }

    private static void both() {
        BeadSchool x = new BeadSchool();
        x.frame(0, 9);
        x.frame(2, 9);
        x.frame(1, 1);
        x.frame(3, 7);
        x.frame(3, 7);
        x.frame(3, 1);
        due("3 unknown first", x.both(6, 0), UNKNOWN);
        due("3 unknown second", x.both(0, -1), UNKNOWN);
        due("3 base", x.both(0, 3), NO);
        due("3 itself", x.both(0, 0), NO);
        due("3 two of ten", x.both(0, 1), 6);
        due("3 19 rods", x.both(6, 2), NO);
        due("3 its part", x.both(6, 0), NO);
        due("3 its part in front", x.both(1, 6), NO);
        due("3 two of sixteen", x.both(3, 4), 7);
        due("3 15 rods", x.both(7, 5), NO);
        due("3 its kind", x.size(7, 1), 4);
        due("3 its base", x.size(7, 2), 16);
        due("3 its rods", x.size(7, 0), 14);
        due("3 how deep", x.size(7, 4), 1);
        due("3 first part's rod is above", x.push(6, 9, 0, 1), 1);
        due("3 ..", x.digit(0, 0), 1);
        due("3 second part's rod is below", x.push(6, 0, 0, 7), 7);
        due("3 ..", x.digit(1, 0), 7);
        due("3 a common frame within", x.both(x.both(2, x.frame(0, 0)), 2), NO);
        deepDoubles();
        fullDoubles();
    }

    private static void deepDoubles() {
        BeadSchool x = new BeadSchool();
        int deep = x.frame(0, 1);
        for (int n = 1; n <= 5; n++) {
            deep = x.both(x.frame(2, 1), deep);
            due("3 deep", x.size(deep, 4), n);
        }
        due("3 too deep", x.both(deep, x.frame(0, 0)), NO);
        due("3 too deep, second", x.both(x.frame(0, 0), deep), NO);
        int left = x.both(x.frame(0, 1), x.frame(0, 1));
        due("3 the greater one counts", x.size(x.both(left, x.frame(0, 0)), 4), 2);
    }

    private static void fullDoubles() {
        BeadSchool x = new BeadSchool();
        for (int n = 0; n < 29; n++) {
            x.frame(0, 1);
        }
        due("3 the last", x.both(0, 1), 29);
        due("3 full", x.both(2, 3), FULL);
        due("3 no ahead of full", x.both(2, 2), NO);
        due("3 unknown ahead of full", x.both(2, 30), UNKNOWN);
    }

    private static void rod() {
        BeadSchool x = new BeadSchool();
        x.frame(0, 2);
        x.frame(2, 2);
        x.both(0, 1);
        due("4 unknown", x.rod(3, 0, 1), UNKNOWN);
        due("4 unknown ahead of outside", x.rod(-1, 0, 9), UNKNOWN);
        due("4 n 3", x.rod(0, 0, 3), OUTSIDE);
        due("4 n -2", x.rod(0, 0, -2), OUTSIDE);
        due("4 n 2 of a ten", x.rod(1, 0, 2), OUTSIDE);
        due("4 outside ahead of cast", x.rod(2, 0, 3), OUTSIDE);
        due("4 a double", x.rod(2, 0, 2), CAST);
        due("4 cast ahead of beyond", x.rod(2, 9, 1), CAST);
        due("4 beyond", x.rod(0, 2, 1), BEYOND);
        due("4 beyond below", x.rod(0, LOW, 1), BEYOND);
        x.push(0, 1, 0, 3);
        due("4 a new row", x.rod(0, 1, 2), 1);
        due("4 of 0 each", x.digit(0, 1), 0);
        due("4 missing", x.rod(0, 1, -1), 1);
        due("4 ..", x.digit(0, 1), NULL);
        due("4 cut short", x.rod(0, 1, 1), 1);
        due("4 lower is there", x.beads(0, 1, 0), 0);
        due("4 upper is not", x.beads(0, 1, 1), BEYOND);
        due("4 none", x.rod(0, 1, 0), 1);
        due("4 ..", x.beads(0, 1, 0), BEYOND);
        due("4 a ten's", x.rod(1, 1, 0), 1);
        due("4 ..", x.digit(1, 1), BEYOND);
        due("4 a ten's again", x.rod(1, 1, 1), 1);
        due("4 ..", x.digit(1, 1), 0);
    }

    private static void push() {
        BeadSchool x = new BeadSchool();
        int[][] most = {{4, 1}, {5, 2}, {10, -1}, {5, 2}};
        for (int kind = 0; kind < 4; kind++) {
            x.frame(kind, 2);
            for (int which = 0; which < 2; which++) {
                int m = most[kind][which];
                if (m < 0) {
                    due("5 of a ten upper", x.push(kind, 0, which, 0), BEYOND);
                    continue;
                }
                due("5 all", x.push(kind, 0, which, m), m);
                due("5 one more", x.push(kind, 0, which, 1), NO);
                due("5 far more", x.push(kind, 0, which, HIGH), NO);
                due("5 none", x.push(kind, 0, which, 0), m);
                due("5 less", x.push(kind, 0, which, -m), 0);
                due("5 below 0", x.push(kind, 0, which, -1), NO);
                due("5 far below 0", x.push(kind, 0, which, LOW), NO);
            }
        }
        due("5 unknown", x.push(4, 0, 0, 1), UNKNOWN);
        due("5 which", x.push(0, 0, 2, 1), OUTSIDE);
        due("5 which below", x.push(0, 9, -1, 1), OUTSIDE);
        due("5 beyond", x.push(0, 2, 0, 1), BEYOND);
        due("5 beyond ahead of no", x.push(0, -1, 0, 100), BEYOND);
        x.rod(0, 1, -1);
        due("5 missing", x.push(0, 1, 1, 1), NULL);
        x.rod(0, 1, 1);
        due("5 cut short", x.push(0, 1, 1, 100), BEYOND);
        due("5 lower alone", x.push(0, 1, 0, 4), 4);
        due("5 no", x.push(0, 1, 0, 1), NO);
        due("5 no changes nothing", x.beads(0, 1, 0), 4);
        x.frame(0, 0);
        due("6 no rods at all", x.beads(4, 0, 0), BEYOND);
        x.both(2, 0);
        due("5 of a double, by its part", x.push(5, 0, 0, 5), NO);
        due("5 of a double, the other part", x.push(5, 2, 0, 10), 10);
    }

    private static void beadsAndDigit() {
        BeadSchool x = new BeadSchool();
        x.frame(1, 4);
        x.frame(2, 2);
        x.push(0, 0, 0, 5);
        x.push(0, 0, 1, 2);
        due("6 lower", x.beads(0, 0, 0), 5);
        due("6 upper", x.beads(0, 0, 1), 2);
        due("7 digit", x.digit(0, 0), 15);
        x.push(1, 1, 0, 10);
        due("7 of a ten", x.digit(1, 1), 10);
        due("6 of a ten", x.beads(1, 1, 0), 10);
        due("6 of a ten upper", x.beads(1, 1, 1), BEYOND);
        due("6 unknown", x.beads(2, 0, 0), UNKNOWN);
        due("6 unknown ahead of outside", x.beads(2, 0, 5), UNKNOWN);
        due("6 outside", x.beads(0, 0, 2), OUTSIDE);
        due("6 outside below", x.beads(0, 99, -1), OUTSIDE);
        due("6 beyond", x.beads(0, 4, 0), BEYOND);
        due("7 unknown", x.digit(-1, 0), UNKNOWN);
        due("7 beyond", x.digit(0, HIGH), BEYOND);
        x.rod(0, 1, -1);
        x.rod(0, 2, 1);
        x.rod(0, 3, 0);
        due("6 missing", x.beads(0, 1, 1), NULL);
        due("7 missing", x.digit(0, 1), NULL);
        due("7 fault", x.fault(), 1);
        due("7 cut short", x.digit(0, 2), BEYOND);
        due("7 fault", x.fault(), 2);
        due("7 no numbers", x.digit(0, 3), BEYOND);
    }

    private static void shows() {
        BeadSchool x = new BeadSchool();
        x.frame(1, 3);
        x.frame(3, 3);
        x.frame(0, 0);
        x.push(0, 0, 0, 5);
        x.push(0, 1, 1, 2);
        x.push(0, 2, 0, 1);
        due("8 improper digits count", x.shows(0), 5 + 100 + 100);
        x.push(1, 0, 1, 2);
        x.push(1, 2, 0, 3);
        due("8 of sixteen", x.shows(1), 10 + 3 * 256);
        due("8 no rods", x.shows(2), 0);
        due("15 no rods onto themselves", x.copy(2, 0, 2, 0, 0), 0);
        due("8 unknown", x.shows(3), LOST);
        due("8 unknown is no fault", x.told(4), 0);
        x.rod(0, 2, -1);
        x.rod(0, 1, 0);
        due("8 fault", x.shows(0), LOST);
        due("8 from 0 on", x.fault(), 2);
        x.rod(0, 0, -1);
        due("8 fault", x.shows(0), LOST);
        due("8 from 0 on", x.fault(), 1);
        due("8 lost counts", x.told(4), 2);
        BeadSchool y = new BeadSchool();
        y.frame(1, 18);
        for (int i = 0; i < 18; i++) {
            y.push(0, i, 0, 5);
            y.push(0, i, 1, 2);
        }
        due("8 the most", y.shows(0), 15L * 111111111111111111L);
    }

    private static void set() {
        BeadSchool x = new BeadSchool();
        x.frame(0, 3);
        x.frame(2, 3);
        x.frame(3, 3);
        due("9 five", x.set(0, 796), 1);
        due("9 lower", x.beads(0, 0, 0), 1);
        due("9 upper", x.beads(0, 0, 1), 1);
        due("9 lower", x.beads(0, 1, 0), 4);
        due("9 shows", x.shows(0), 796);
        due("9 with 0 in front", x.set(0, 5), 1);
        due("9 ..", x.shows(0), 5);
        due("9 ten", x.set(1, 907), 1);
        due("9 lower", x.beads(1, 2, 0), 9);
        due("9 sixteen", x.set(2, 0xfa4), 1);
        due("9 upper, 2 at most", x.beads(2, 2, 1), 2);
        due("9 lower", x.beads(2, 2, 0), 5);
        due("9 of ten upper", x.beads(2, 1, 1), 2);
        due("9 lower", x.beads(2, 1, 0), 0);
        due("9 greatest", x.set(2, 0xfff), 1);
        due("9 too great", x.set(2, 0x1000), NO);
        due("9 too great", x.set(0, 1000), NO);
        due("9 far too great", x.set(0, Long.MAX_VALUE), NO);
        due("9 below 0", x.set(0, -1), OUTSIDE);
        due("9 far below 0", x.set(0, Long.MIN_VALUE), OUTSIDE);
        due("9 unknown", x.set(3, -1), UNKNOWN);
        x.set(0, 123);
        x.rod(0, 1, 1);
        x.rod(0, 2, -1);
        due("9 no ahead of faults", x.set(0, 1000), NO);
        due("9 faults from 0 on", x.set(0, 456), BEYOND);
        due("9 nothing changed", x.digit(0, 0), 3);
        x.rod(0, 1, -1);
        due("9 also where only 0 would be written", x.set(0, 4), NULL);
        due("9 nothing changed", x.digit(0, 0), 3);
    }

    private static void proper() {
        BeadSchool x = new BeadSchool();
        x.frame(1, 3);
        due("10 at first", x.proper(0), 1);
        x.push(0, 1, 0, 5);
        due("10 five below", x.proper(0), 0);
        x.push(0, 1, 0, -1);
        due("10 four below", x.proper(0), 1);
        x.push(0, 1, 1, 2);
        due("10 fourteen", x.proper(0), 0);
        x.push(0, 1, 0, -4);
        due("10 ten of ten", x.proper(0), 0);
        x.push(0, 1, 1, -1);
        due("10 five", x.proper(0), 1);
        x.rod(0, 2, 1);
        x.push(0, 2, 0, 5);
        due("10 a rod that can't be read", x.proper(0), 1);
        due("10 unknown", x.proper(1), UNKNOWN);
        int s = x.frame(3, 1);
        for (int upper = 0; upper <= 2; upper++) {
            x.rod(s, 0, 2);
            x.push(s, 0, 1, upper);
            for (int lower = 0; lower <= 5; lower++) {
                due("10 of sixteen", x.proper(s), lower < 5 || upper == 2 ? 1 : 0);
                x.push(s, 0, 0, 1);
            }
        }
        int t = x.frame(2, 1);
        x.push(t, 0, 0, 9);
        due("10 nine of a ten", x.proper(t), 1);
        x.push(t, 0, 0, 1);
        due("10 ten of a ten", x.proper(t), 0);
        int d = x.both(t, 0);
        due("10 of a double", x.proper(d), 0);
        x.push(d, 3, 0, -1);
        due("10 of a double", x.proper(d), 1);
    }

    private static void size() {
        BeadSchool x = new BeadSchool();
        x.frame(0, 4);
        x.frame(2, 2);
        x.both(1, 0);
        x.rod(0, 1, -1);
        x.rod(0, 3, 1);
        x.rod(1, 0, 0);
        int[] want = {6, 4, 10, 3, 1};
        for (int what = 0; what < 5; what++) {
            due("11 of a double", x.size(2, what), want[what]);
        }
        due("11 readable", x.size(0, 3), 2);
        due("11 readable, without rods", x.size(x.frame(0, 0), 3), 0);
        due("11 readable of a ten", x.size(1, 3), 1);
        due("11 outside", x.size(0, 5), OUTSIDE);
        due("11 outside below", x.size(0, -1), OUTSIDE);
        due("11 unknown", x.size(4, 9), UNKNOWN);
        due("11 not traced", x.trace(), 0);
    }

    private static void meant() {
        BeadSchool x = new BeadSchool();
        for (int kind = 0; kind < 4; kind++) {
            x.frame(kind, 1);
        }
        x.both(0, 1);
        String[] is = {"10000", "11000", "00100", "11010", "00001"};
        for (int f = 0; f < 5; f++) {
            for (int kind = 0; kind < 5; kind++) {
                due("12 meant " + f + " as " + kind, x.meant(f, kind), is[f].charAt(kind) == '1' ? 1 : CAST);
            }
            due("12 outside", x.meant(f, 5), OUTSIDE);
            due("12 outside below", x.meant(f, -1), OUTSIDE);
        }
        due("12 fault", x.fault(), 3);
        due("12 unknown", x.meant(5, 7), UNKNOWN);
    }

    private static void asksAndTrace() {
        BeadSchool x = new BeadSchool();
        for (int kind = 0; kind < 4; kind++) {
            x.frame(kind, 3 + kind);
        }
        int[][] said = {{10, 5, 9, 3}, {10, 7, 12, 8}, {10, 10, CAST, CAST}, {16, 7, 12, 13}};
        int[][][] bodies = {{{1}, {4}, {7, 1}, {10}}, {{1}, {5, 4}, {8, 5, 4}, {11, 10}},
            {{1}, {6}, {}, {}}, {{2}, {5, 4}, {8, 5, 4}, {12, 11, 10}}};
        int trace = 0;
        for (int f = 0; f < 4; f++) {
            for (int ask = 0; ask < 4; ask++) {
                due("13 asks " + f + " " + ask, x.asks(f, ask), said[f][ask]);
                trace = traced(trace, bodies[f][ask]);
                due("14 trace " + f + " " + ask, x.trace(), trace);
            }
        }
        int g = x.both(0, 1);
        due("13 double base", x.asks(g, 0), 10);
        trace = traced(trace, 3, 1);
        due("14 ..", x.trace(), trace);
        due("13 double carry", x.asks(g, 2), 21);
        trace = traced(trace, 9, 7, 1, 8, 5, 4);
        due("14 ..", x.trace(), trace);
        due("13 double beads", x.asks(g, 1), CAST);
        due("13 double judge", x.asks(g, 3), CAST);
        due("14 no body had begun", x.trace(), trace);
        int h = x.both(g, 2);
        due("13 second part can't", x.asks(h, 2), CAST);
        trace = traced(trace, 9, 9, 7, 1, 8, 5, 4);
        due("14 bodies stay", x.trace(), trace);
        int k = x.both(2, x.frame(0, 1));
        due("13 first part can't", x.asks(k, 2), CAST);
        trace = traced(trace, 9);
        due("14 the second one was not asked", x.trace(), trace);
        int s = x.both(3, x.frame(3, 1));
        due("13 sixteen's base", x.asks(s, 0), 16);
        trace = traced(trace, 3, 2);
        due("14 ..", x.trace(), trace);
        due("13 judge without rods", x.asks(x.frame(0, 0), 3), 0);
        trace = traced(trace, 10);
        due("13 unknown", x.asks(99, 9), UNKNOWN);
        due("13 outside", x.asks(0, 4), OUTSIDE);
        due("13 outside below", x.asks(0, -1), OUTSIDE);
        due("14 refused", x.trace(), trace);
    }

    private static int traced(int trace, int... bodies) {
        int t = trace;
        for (int b : bodies) {
            t = 31 * t + b;
        }
        return t;
    }

    private static void copyWithinOne() {
        BeadSchool x = new BeadSchool();
        x.frame(0, 5);
        x.set(0, 54321);
        due("15 upwards", x.copy(0, 0, 0, 1, 3), 3);
        due("15 as if by way of others", x.shows(0), 53211);
        due("16 came", x.copied(), 3);
        x.set(0, 54321);
        due("15 downwards", x.copy(0, 2, 0, 0, 3), 3);
        due("15 ..", x.shows(0), 54543);
        due("15 rows of their own", x.push(0, 0, 0, 1), 4);
        due("15 ..", x.digit(0, 2), 5);
        x.rod(0, 4, -1);
        due("15 a missing one", x.copy(0, 4, 0, 0, 1), 1);
        due("15 ..", x.digit(0, 0), NULL);
        due("15 all onto themselves", x.copy(0, 0, 0, 0, 5), 5);
        due("15 n 0 at the end", x.copy(0, 5, 0, 5, 0), 0);
        due("16 none came", x.copied(), 0);
        x.copy(0, 1, 0, 1, 2);
        due("15 n 0 beyond", x.copy(0, 6, 0, 0, 0), BEYOND);
        due("16 none came", x.copied(), 0);
        due("15 n 0 beyond, to", x.copy(0, 0, 0, 6, 0), BEYOND);
        due("15 n 0 below", x.copy(0, -1, 0, 0, 0), BEYOND);
        due("15 n 0 below, to", x.copy(0, 0, 0, -1, 0), BEYOND);
        due("15 n below 0", x.copy(0, 0, 0, 0, -1), BEYOND);
        long before = x.digest(0);
        due("15 not all there", x.copy(0, 2, 0, 0, 4), BEYOND);
        due("15 not all there, to", x.copy(0, 0, 0, 2, 4), BEYOND);
        due("15 a sum that wraps", x.copy(0, 1, 0, 1, HIGH), BEYOND);
        due("15 an index that wraps", x.copy(0, HIGH, 0, HIGH, 2), BEYOND);
        due("15 nothing came", x.digest(0), before);
    }

    private static void copyAcrossTwo() {
        BeadSchool x = new BeadSchool();
        x.frame(0, 4);
        x.frame(1, 3);
        x.frame(2, 3);
        x.frame(3, 3);
        x.both(1, 2);
        x.set(0, 4321);
        due("15 across", x.copy(0, 1, 1, 0, 2), 2);
        due("15 ..", x.shows(1), 32);
        due("15 up to the first that is not there", x.copy(0, 2, 1, 0, 9), BEYOND);
        due("16 two came", x.copied(), 2);
        due("15 ..", x.shows(1), 43);
        due("15 to is shorter", x.copy(0, 0, 1, 1, HIGH), BEYOND);
        due("16 two came", x.copied(), 2);
        due("15 ..", x.shows(1), 213);
        due("15 n 0, anywhere", x.copy(0, -5, 1, HIGH, 0), 0);
        due("15 n below 0: none", x.copy(0, LOW, 1, 0, LOW), 0);
        due("16 none came", x.copied(), 0);
        x.copy(0, 0, 1, 0, 1);
        due("15 below", x.copy(0, -1, 1, 0, 1), BEYOND);
        due("16 none came", x.copied(), 0);
        x.copy(0, 0, 1, 0, 3);
        due("15 a ten and none", x.copy(2, 0, 1, 0, 1), NO);
        due("15 none and a ten", x.copy(3, 9, 2, 0, 1), NO);
        due("15 a double", x.copy(4, 0, 1, 0, 1), CAST);
        due("15 a double and a ten", x.copy(2, 0, 4, 0, 1), CAST);
        due("15 cast ahead of beyond", x.copy(4, 99, 4, 0, 1), CAST);
        due("15 unknown", x.copy(5, 0, 0, 0, 1), UNKNOWN);
        due("15 unknown, to", x.copy(2, 0, 5, 0, 1), UNKNOWN);
        due("16 the refused did not count", x.copied(), 3);
        x.push(3, 0, 0, 5);
        x.push(3, 0, 1, 2);
        x.rod(3, 1, 1);
        x.rod(3, 2, -1);
        due("15 rows alike", x.copy(3, 0, 0, 0, 3), 3);
        due("15 ..", x.digit(0, 0), 15);
        due("15 more than the kind has", x.push(0, 0, 0, 0), NO);
        due("15 less then", x.push(0, 0, 0, -1), 4);
        due("15 the other has its own row", x.digit(3, 0), 15);
        due("15 cut short", x.beads(0, 1, 1), BEYOND);
        due("15 missing", x.digit(0, 2), NULL);
        x.frame(2, 2);
        x.set(5, 97);
        due("15 of two tens", x.copy(5, 0, 2, 1, 2), 2);
        due("15 ..", x.shows(2), 970);
    }

    private static void digest() {
        BeadSchool x = new BeadSchool();
        x.frame(0, 2);
        x.frame(2, 1);
        x.frame(0, 0);
        due("17 no rods", x.digest(2), 7);
        x.set(0, 8);
        long five = (((7L * 31 + 3) * 31 + 3) * 31 + 1) * 31 + 3;
        five = (five * 31) * 31;
        due("17 five", x.digest(0), five);
        x.set(1, 4);
        due("17 ten", x.digest(1), (7 * 31 + 2) * 31 + 4);
        x.both(0, 1);
        long two = (7L * 31 + 2) * 31 + 4;
        two = ((two * 31 + 3) * 31 + 3) * 31 + 1;
        two = ((two * 31 + 3) * 31) * 31;
        due("17 second part first", x.digest(3), two);
        x.rod(0, 0, -1);
        x.rod(0, 1, 1);
        x.push(0, 1, 0, 4);
        due("17 missing, cut short", x.digest(0), ((7L * 31) * 31 + 2) * 31 + 4);
        x.rod(0, 1, 0);
        due("17 no numbers", x.digest(0), (7L * 31) * 31 + 1);
        due("17 unknown", x.digest(4), LOST);
        long wraps = 7;
        for (int i = 0; i < 18; i++) {
            wraps = ((wraps * 31 + 3) * 31 + 4) * 31 + 1;
        }
        int f = x.frame(0, 18);
        x.set(f, 999999999999999999L);
        due("17 wraps", x.digest(f), wraps);
    }

    private static void sharedRods() {
        BeadSchool x = new BeadSchool();
        x.frame(0, 2);
        x.frame(2, 2);
        x.both(0, 1);
        x.frame(1, 1);
        x.both(2, 3);
        due("1 deep rods", x.set(4, 12345), 1);
        due("1 first part above", x.shows(0), 12);
        due("1 second part", x.shows(1), 34);
        due("1 second part below", x.shows(3), 5);
        x.rod(1, 0, -1);
        due("1 what changes there changes here", x.digit(4, 1), NULL);
        x.copy(0, 0, 3, 0, 1);
        due("1 ..", x.digit(4, 0), 2);
    }

    private static void faultsAreCounted() {
        BeadSchool x = new BeadSchool();
        x.frame(0, 1);
        x.frame(0, -3);
        x.digit(0, 1);
        x.meant(0, 4);
        due("44 three faults", x.told(4), 3);
        due("45 the latest", x.fault(), 3);
        x.digit(7, 1);
        x.beads(0, 0, 4);
        due("45 refusals are none", x.told(4), 3);
        due("45 the latest", x.fault(), 3);
        x.digit(0, 0);
        due("45 answers leave it", x.fault(), 3);
    }
}
