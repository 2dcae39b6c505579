/** Promises 22 to 34: methods, their steps, and what is told of them. */
public final class MethodsTest {
    private static final int UNKNOWN = -1, OUTSIDE = -2, NO = -3, NONE = -5;
    private static final int NULL = -11, BEYOND = -12, ZERO = -15;
    private static final long LOST = Long.MIN_VALUE;
    private static final Check check = new Check("methods");

    private MethodsTest() {
    }

    public static void main(String[] args) {
        addWithReasons();
        lessWithReasons();
        reasonsOfOneStep();
        refusalsOfOne();
        stuckAdd();
        times();
        divide();
        divideWithLongRows();
        root();
        cube();
        turn();
        turnIsStuck();
        refusalsOfTwo();
        clearIsStuck();
        part();
        tally();
        step();
        undo();
        undoIsBarred();
        doubles();
        counts();
        everyDigit();
        check.end();
    }

    private static void due(String what, long got, long want) {
        check.due(what, got, want);
    }

    /** Rows of frame, rod, upper, lower, reason, in hand, added. */
    private static void row(String what, BeadSchool x, int[][] want) {
        due(what + ": steps", x.steps(), want.length);
        for (int k = 0; k < want.length; k++) {
            for (int n = 0; n < 7; n++) {
                due(what + ": step " + k + " " + n, x.step(k, n), want[k][n]);
            }
        }
    }

    private static void addWithReasons() {
        BeadSchool x = new BeadSchool();
        x.frame(0, 3);
        x.set(0, 47);
        due("22 47 + 58", x.add(0, 58), 4);
        due("22 shows", x.shows(0), 105);
        row("22", x, new int[][] {{0, 1, 1, 0, 1, 0, 5}, {0, 0, 0, -2, 3, 1, 8}, {0, 1, -1, -4, 3, 1, 1}, {0, 2, 0, 1, 1, 0, 1}});
        due("22 nothing to add", x.add(0, 0), 0);
        due("31 it is the latest", x.steps(), 0);
        x.set(0, 0);
        due("22 zeros are not added", x.add(0, 405), 2);
        due("22 of a ten", x.frame(2, 2), 1);
        x.set(1, 7);
        due("22 ..", x.add(1, 5), 2);
        row("22 ten", x, new int[][] {{1, 0, 0, -5, 3, 1, 5}, {1, 1, 0, 1, 1, 0, 1}});
        due("22 of sixteen", x.frame(3, 2), 2);
        x.set(2, 0x9c);
        due("22 ..", x.add(2, 0x37), 3);
        due("22 ..", x.shows(2), 0xd3);
        row("22 sixteen", x, new int[][] {{2, 1, 1, -2, 2, 0, 3}, {2, 0, -2, 1, 4, 1, 7}, {2, 1, 0, 1, 1, 0, 1}});
    }

    private static void lessWithReasons() {
        BeadSchool x = new BeadSchool();
        x.frame(0, 3);
        x.set(0, 105);
        due("23 105 - 58", x.less(0, 58), 4);
        due("23 shows", x.shows(0), 47);
        row("23", x, new int[][] {{0, 1, 1, 0, 3, -1, -5}, {0, 2, 0, -1, 1, 0, -1}, {0, 0, 0, 2, 3, -1, -8}, {0, 1, -1, 4, 2, 0, -1}});
        due("23 below 0: stuck", x.less(0, 48), -104);
        due("23 ..", x.stuck(0), 2);
        due("23 ..", x.stuck(1), 3);
        due("23 as it was", x.shows(0), 47);
    }

    private static void reasonsOfOneStep() {
        int[][] added = {{4, 1, 2, 0}, {1, 2, 1, 0}, {0, 9, 1, 0}, {9, 9, 3, 1}, {6, 7, 4, 1}, {5, 5, 3, 1}, {2, 9, 3, 1}, {4, 6, 3, 1}, {8, 4, 3, 1}};
        for (int[] c : added) {
            BeadSchool x = new BeadSchool();
            x.frame(1, 2);
            x.set(0, c[0]);
            x.add(0, c[1]);
            due("22 reason of " + c[0] + " + " + c[1], x.step(0, 4), c[2]);
            due("22 in hand", x.step(0, 5), c[3]);
            due("32 added", x.step(0, 6), c[1]);
        }
        int[][] taken = {{5, 1, 2, 0}, {3, 2, 1, 0}, {9, 9, 1, 0}, {3, 7, 4, -1}, {8, 9, 3, -1}, {0, 5, 3, -1}, {5, 9, 3, -1}, {1, 4, 3, -1}, {4, 7, 4, -1}, {0, 6, 3, -1}};
        for (int[] c : taken) {
            BeadSchool x = new BeadSchool();
            x.frame(1, 2);
            x.set(0, 10 + c[0]);
            x.less(0, c[1]);
            due("23 reason of " + c[0] + " - " + c[1], x.step(0, 4), c[2]);
            due("23 in hand", x.step(0, 5), c[3]);
            due("32 taken", x.step(0, 6), -c[1]);
        }
    }

    private static void refusalsOfOne() {
        for (int which = 0; which < 3; which++) {
            BeadSchool x = new BeadSchool();
            x.frame(1, 2);
            String n = (22 + which) + " ";
            due(n + "unknown", one(x, which, 1, -1), UNKNOWN);
            due(n + "outside", one(x, which, 0, -1), OUTSIDE);
            due(n + "outside, lowest", one(x, which, 0, Long.MIN_VALUE), OUTSIDE);
            x.push(0, 1, 0, 5);
            due(n + "outside ahead of no", one(x, which, 0, -1), OUTSIDE);
            due(n + "not proper", one(x, which, 0, 1), NO);
            x.rod(0, 0, -1);
            due(n + "no ahead of faults", one(x, which, 0, 1), NO);
            due(n + "refused: none was", x.told(2) + x.told(3), 0);
            due(n + "refused: none was", x.tally(0, 1), NULL);
            x.rod(0, 1, 1);
            x.push(0, 1, 0, 5);
            due(n + "what can't be read is not judged", one(x, which, 0, 0), which == 2 ? NULL : 0);
        }
    }

    private static int one(BeadSchool x, int which, int f, long v) {
        return which == 0 ? x.add(f, v) : which == 1 ? x.less(f, v) : x.times(f, v);
    }

    private static void stuckAdd() {
        BeadSchool x = new BeadSchool();
        x.frame(0, 4);
        x.set(0, 95);
        x.rod(0, 2, -1);
        due("22 stuck at a missing rod", x.add(0, 17), -101);
        due("33 by", x.stuck(0), 1);
        due("33 rod", x.stuck(1), 2);
        due("33 frame", x.stuck(2), 0);
        due("33 outside", x.stuck(3), OUTSIDE);
        due("33 outside below", x.stuck(-1), OUTSIDE);
        due("22 as it was", x.digit(0, 0), 5);
        due("22 as it was", x.digit(0, 1), 9);
        row("22 told nevertheless", x, new int[][] {{0, 1, -1, -4, 3, 1, 1}});
        due("34 none stands", x.undo(), NO);
        x.rod(0, 2, 0);
        due("22 stuck at one cut short", x.add(0, 17), -101);
        due("33 by", x.stuck(0), 2);
        x.rod(0, 2, 2);
        due("22 not stuck", x.add(0, 17), 4);
        due("33 by", x.stuck(0), 0);
        due("33 rod", x.stuck(1), NONE);
        due("33 frame", x.stuck(2), NONE);
        due("22 a number with more digits", x.add(0, Long.MAX_VALUE), -100);
        due("33 at its highest", x.stuck(1), 18);
    }

    private static void times() {
        BeadSchool x = new BeadSchool();
        x.frame(0, 4);
        x.set(0, 12);
        due("24 12 * 34", x.times(0, 34), 7);
        due("24 shows", x.shows(0), 408);
        row("24", x, new int[][] {{0, 1, 0, -1, 1, 0, -1}, {0, 0, 0, -2, 1, 0, -2}, {0, 2, 0, 3, 1, 0, 3}, {0, 1, 0, 4, 1, 0, 4},
            {0, 1, 0, -4, 3, 1, 6}, {0, 2, 0, 1, 1, 0, 1}, {0, 0, 1, 3, 1, 0, 8}});
        due("24 by 0", x.times(0, 0), 2);
        due("24 shows", x.shows(0), 0);
        due("24 of 0", x.times(0, 99), 0);
        x.set(0, 1001);
        due("24 stuck", x.times(0, 10), -102);
        due("24 at the rod above", x.stuck(1), 4);
        due("24 as it was", x.shows(0), 1001);
        x.rod(0, 0, -1);
        x.rod(0, 1, 1);
        due("24 fault, from 0 on", x.times(0, 1), NULL);
        due("31 the latest stays", x.steps(), 2);
        x.frame(3, 4);
        x.set(1, 0xff);
        due("24 of sixteen: the highest first", x.times(1, 0xff) > 0 ? x.shows(1) : -1, 0xfe01);
    }

    private static void divide() {
        BeadSchool x = new BeadSchool();
        x.frame(0, 3);
        x.frame(1, 2);
        x.set(0, 100);
        x.set(1, 40);
        due("25 100 / 19", x.divide(0, 1, 19), 13);
        due("25 rest", x.shows(0), 5);
        due("25 quotient", x.shows(1), 5);
        row("25", x, new int[][] {{1, 1, 0, -4, 1, 0, -4}, {1, 1, 0, 1, 1, 0, 1}, {1, 1, 0, -1, 1, 0, -1},
            {1, 0, 1, 4, 1, 0, 9}, {1, 0, 0, -1, 1, 0, -1}, {1, 0, 0, -1, 1, 0, -1}, {1, 0, 0, -1, 1, 0, -1}, {1, 0, 0, -1, 1, 0, -1},
            {0, 1, 1, 0, 3, -1, -5}, {0, 2, 0, -1, 1, 0, -1}, {0, 1, -1, 1, 2, 0, -4}, {0, 0, 1, 0, 3, -1, -5}, {0, 1, 0, -1, 1, 0, -1}});
        x.set(1, 12);
        due("25 a greater one", x.divide(0, 1, 6), 2);
        due("25 only cleared", x.shows(1), 0);
        due("25 nothing taken", x.shows(0), 5);
        x.set(1, 12);
        due("25 one of more digits", x.divide(0, 1, 60), 2);
        due("25 only cleared", x.shows(1), 0);
        x.set(1, 12);
        due("25 by the most", x.divide(0, 1, Long.MAX_VALUE), 2);
        due("25 zero", x.divide(0, 1, 0), ZERO);
        due("25 fault", x.fault(), 5);
        due("25 changed nothing", x.steps(), 2);
        x.set(0, 999);
        due("25 g is too short", x.divide(0, 1, 1), -100);
        due("25 stuck by", x.stuck(0), 2);
        due("25 stuck rod", x.stuck(1), 2);
        due("25 stuck frame", x.stuck(2), 1);
        due("25 as it was", x.shows(0), 999);
        x.rod(0, 2, -1);
        due("25 f's fault ahead of zero", x.divide(0, 1, 0), NULL);
    }

    private static void divideWithLongRows() {
        long[] divisors = {1, 2, 9, 10, 11, 19, 99, 199999999, 999999999, 1999999999999L, 123456789012345678L, 999999999999999999L};
        for (long v : divisors) {
            for (int base = 10; base <= 16; base += 6) {
                BeadSchool x = new BeadSchool();
                int kind = base == 16 ? 3 : 1;
                int f = x.frame(kind, base == 16 ? 14 : 18);
                int g = x.frame(kind, base == 16 ? 14 : 18);
                long most = base == 16 ? (1L << 56) - 1 : 999999999999999999L;
                x.set(f, most);
                check.holds("25 " + most + " / " + v, x.divide(f, g, v) >= 0);
                due("25 quotient by " + v, x.shows(g), most / v);
                due("25 rest by " + v, x.shows(f), most % v);
                due("25 proper", x.proper(f) + x.proper(g), 2);
            }
        }
    }

    private static void root() {
        BeadSchool x = new BeadSchool();
        x.frame(0, 3);
        x.frame(2, 2);
        x.set(0, 150);
        due("26 150", x.root(0, 1), 6);
        due("26 root", x.shows(1), 12);
        due("26 rest", x.shows(0), 6);
        row("26", x, new int[][] {{1, 1, 0, 1, 1, 0, 1}, {0, 2, 0, -1, 1, 0, -1}, {1, 0, 0, 2, 1, 0, 2},
            {0, 1, -1, 1, 2, 0, -4}, {0, 0, 1, 1, 3, -1, -4}, {0, 1, 0, -1, 1, 0, -1}});
        long[] many = {0, 1, 3, 4, 99, 100, 999999999999999999L, 999999998000000001L, 999999998000000000L, 123456789012345678L};
        for (long v : many) {
            BeadSchool y = new BeadSchool();
            y.frame(1, 18);
            y.frame(1, 9);
            y.set(0, v);
            y.set(1, 8);
            check.holds("26 root of " + v, y.root(0, 1) >= 0);
            long r = y.shows(1);
            check.holds("26 it is the greatest of " + v, r * r <= v && (r + 1) * (r + 1) > v);
            due("26 rest of " + v, y.shows(0), v - r * r);
        }
        BeadSchool z = new BeadSchool();
        z.frame(3, 14);
        z.frame(3, 7);
        z.set(0, (1L << 56) - 1);
        z.root(0, 1);
        due("26 of sixteen", z.shows(1), (1L << 28) - 1);
        z.frame(3, 1);
        z.set(0, 0x100);
        due("26 stuck", z.root(0, 2), -100);
        due("26 where", z.stuck(1), 1);
        due("26 of g", z.stuck(2), 2);
        z.rod(0, 0, 1);
        due("26 fault", z.root(0, 1), BEYOND);
    }

    private static void cube() {
        BeadSchool x = new BeadSchool();
        x.frame(0, 4);
        x.frame(2, 2);
        x.set(0, 1730);
        due("27 1730", x.cube(0, 1), 7);
        due("27 root", x.shows(1), 12);
        due("27 rest", x.shows(0), 2);
        row("27", x, new int[][] {{1, 1, 0, 1, 1, 0, 1}, {0, 3, 0, -1, 1, 0, -1}, {1, 0, 0, 2, 1, 0, 2},
            {0, 2, -1, -2, 1, 0, -7}, {0, 1, 0, -2, 1, 0, -2}, {0, 0, 0, 2, 3, -1, -8}, {0, 1, 0, -1, 1, 0, -1}});
        long[] many = {0, 1, 7, 8, 999, 1000, 999999999999999999L, 999997000002999999L, 999997000002999998L, 123456789012345678L};
        for (long v : many) {
            BeadSchool y = new BeadSchool();
            y.frame(1, 18);
            y.frame(1, 6);
            y.set(0, v);
            y.set(1, 8);
            check.holds("27 root of " + v, y.cube(0, 1) >= 0);
            long r = y.shows(1);
            check.holds("27 it is the greatest of " + v, r * r * r <= v && (r + 1) * (r + 1) * (r + 1) > v);
            due("27 rest of " + v, y.shows(0), v - r * r * r);
        }
        BeadSchool z = new BeadSchool();
        z.frame(3, 14);
        z.frame(3, 5);
        z.set(0, (1L << 56) - 1);
        check.holds("27 of sixteen", z.cube(0, 1) > 0);
        long r = z.shows(1);
        check.holds("27 ..", r * r * r < 1L << 56 && (r + 1) * (r + 1) * (r + 1) >= 1L << 56);
        z.rod(0, 5, -1);
        due("27 fault", z.cube(0, 1), NULL);
    }

    private static void turn() {
        BeadSchool x = new BeadSchool();
        x.frame(3, 2);
        x.frame(0, 4);
        x.set(0, 0xff);
        x.set(1, 3);
        due("28 ff", x.turn(0, 1), 12);
        due("28 to ten", x.shows(1), 255);
        due("28 f stays", x.shows(0), 255);
        row("28", x, new int[][] {{1, 0, 0, -3, 1, 0, -3}, {1, 1, 0, 1, 1, 0, 1}, {1, 0, 1, 0, 1, 0, 5},
            {1, 1, 0, -1, 1, 0, -1}, {1, 0, -1, 0, 1, 0, -5}, {1, 2, 0, 1, 1, 0, 1}, {1, 1, 1, 1, 1, 0, 6},
            {1, 1, -1, 0, 3, 1, 5}, {1, 2, 0, 1, 1, 0, 1}, {1, 1, 0, 3, 1, 0, 3}, {1, 1, 1, -4, 2, 0, 1}, {1, 0, 1, 0, 1, 0, 5}});
        due("29 part", x.part(0, 0), 30);
        due("29 part", x.part(1, 1), 1);
        due("28 back", x.turn(1, 0) >= 0 ? x.shows(0) : -1, 255);
        x.set(0, 0);
        x.frame(2, 3);
        due("28 one base", x.turn(1, 2) >= 0 ? x.shows(2) : -1, 255);
        x.set(1, 0);
        due("28 of 0: only cleared", x.turn(1, 2), 3);
        due("28 ..", x.shows(2), 0);
        due("29 no times in it", x.part(1, 1), 2);
        x.set(1, 200);
        due("28 with zeros", x.turn(1, 0), 9);
        due("28 ..", x.shows(0), 200);
        x.rod(1, 0, 0);
        due("28 fault", x.turn(1, 0), BEYOND);
    }

    private static void turnIsStuck() {
        BeadSchool x = new BeadSchool();
        x.frame(3, 2);
        x.frame(2, 2);
        x.frame(0, 0);
        x.set(0, 0x64);
        x.set(1, 77);
        due("28 100 does not fit", x.turn(0, 1), -109);
        due("28 as it was", x.shows(1), 77);
        due("28 where", x.stuck(1), 2);
        due("28 of g", x.stuck(2), 1);
        due("28 no rods at all", x.turn(0, 2), -100);
        due("29 its times had no digits", x.part(0, 0), LOST);
        due("29 beyond", x.fault(), 2);
    }

    private static void refusalsOfTwo() {
        for (int which = 0; which < 4; which++) {
            BeadSchool x = new BeadSchool();
            x.frame(1, 2);
            x.frame(2, 2);
            x.frame(3, 2);
            x.both(0, 1);
            x.set(0, 25);
            String n = (25 + which) + " ";
            due(n + "unknown f", two(x, which, 4, 0, -1), UNKNOWN);
            due(n + "unknown g", two(x, which, 0, -1, -1), UNKNOWN);
            due(n + "itself", two(x, which, 0, 0, 1), NO);
            due(n + "its part", two(x, which, 3, 1, 1), NO);
            due(n + "whose part it is", two(x, which, 0, 3, 1), NO);
            due(n + "bases", two(x, which, 0, 2, 5), which == 3 ? x.steps() : NO);
            if (which == 0) {
                due(n + "outside", two(x, which, 0, 0, -1), OUTSIDE);
                due(n + "no ahead of zero", two(x, which, 0, 0, 0), NO);
            }
            x.push(1, 0, 0, 10);
            due(n + "g is not proper", two(x, which, 0, 1, 1), NO);
            x.push(1, 0, 0, -10);
            x.push(0, 1, 0, 3);
            due(n + "f is not proper", two(x, which, 0, 1, 1), NO);
        }
    }

    private static int two(BeadSchool x, int which, int f, int g, long v) {
        return which == 0 ? x.divide(f, g, v) : which == 1 ? x.root(f, g) : which == 2 ? x.cube(f, g) : x.turn(f, g);
    }

    private static void clearIsStuck() {
        for (int which = 0; which < 4; which++) {
            BeadSchool x = new BeadSchool();
            x.frame(0, 2);
            x.frame(0, 3);
            x.set(0, 36);
            x.set(1, 777);
            x.rod(1, 1, which % 2 == 0 ? -1 : 1);
            String n = (25 + which) + " ";
            due(n + "stuck in clearing", two(x, which, 0, 1, 2), -101);
            due(n + "by", x.stuck(0), which % 2 == 0 ? 1 : 2);
            due(n + "rod", x.stuck(1), 1);
            due(n + "frame", x.stuck(2), 1);
            due(n + "as it was", x.digit(1, 2), 7);
            due(n + "f as it was", x.shows(0), 36);
            due(n + "it counts", x.told(3), 1);
            due(n + "no times was", x.part(0, 0), LOST);
            due(n + "no times was", x.fault(), 1);
        }
    }

    private static void part() {
        BeadSchool x = new BeadSchool();
        x.frame(0, 7);
        x.set(0, 304);
        due("29 there was none", x.part(0, 0), LOST);
        due("29 null", x.fault(), 1);
        x.times(0, 5070);
        long[] low = {0, 28, 0, 20};
        for (int j = 0; j < 4; j++) {
            due("29 part 0 " + j, x.part(0, j), low[j]);
            due("29 part 2 " + j, x.part(2, j), low[j] * 3 / 4);
        }
        due("29 i is not there", x.part(3, 0), LOST);
        due("29 beyond", x.fault(), 2);
        due("29 digit 0", x.part(1, 99), LOST);
        due("29 null", x.fault(), 1);
        due("29 j is not there", x.part(0, 4), LOST);
        due("29 beyond", x.fault(), 2);
        due("29 i below", x.part(-1, 0), LOST);
        due("29 j below", x.part(2, -1), LOST);
        due("29 they count", x.told(4), 6);
        x.set(0, 2000034);
        due("29 stuck", x.times(0, 68), -103);
        due("29 come to", x.part(6, 1), 12);
        due("29 not come to", x.part(6, 0), 0);
        due("29 not come to", x.part(0, 0), 0);
        due("29 not come to, digit 0", x.part(3, 0), LOST);
        x.add(0, 1);
        due("29 the latest times stays", x.part(6, 1), 12);
        x.set(0, 3);
        x.times(0, 0);
        due("29 v without digits", x.part(0, 0), LOST);
        due("29 beyond", x.fault(), 2);
    }

    private static void tally() {
        BeadSchool x = new BeadSchool();
        x.frame(0, 3);
        x.frame(0, 3);
        due("30 there was none", x.tally(0, 1), NULL);
        x.set(0, 95);
        x.add(0, 8);
        due("30 ten", x.tally(0, 3), 0);
        due("30 both", x.tally(0, 4), 1);
        due("30 ten above", x.tally(1, 3), 1);
        due("30 direct", x.tally(2, 1), 1);
        due("30 five", x.tally(2, 2), 0);
        due("30 reason 0", x.tally(2, 0), BEYOND);
        due("30 reason 5", x.tally(2, 5), BEYOND);
        due("30 no such rod", x.tally(3, 1), BEYOND);
        due("30 no such rod below", x.tally(-1, 1), BEYOND);
        x.add(0, 1);
        due("30 it had no step", x.tally(1, 9), NULL);
        x.add(5, 5);
        due("30 the refused is not the latest", x.tally(0, 2) + x.tally(0, 1), 1);
        x.set(0, 36);
        x.divide(0, 1, 3);
        due("30 only f's", x.tally(0, 1) + x.tally(0, 2), 1);
        x.turn(0, 1);
        due("30 behind a turn none", x.tally(0, 1), NULL);
        due("30 f's rods", x.tally(3, 1), BEYOND);
        x.set(0, 999);
        x.add(0, 1);
        due("30 stuck ones are told", x.tally(2, 3), 1);
        x.set(0, 0);
        x.add(0, 1);
        x.undo();
        due("30 what it had", x.tally(0, 1), 1);
    }

    private static void step() {
        BeadSchool x = new BeadSchool();
        x.frame(0, 3);
        x.add(0, 21);
        due("32 no such step", x.step(2, 0), UNKNOWN);
        due("32 below", x.step(-1, 9), UNKNOWN);
        due("32 outside", x.step(1, 7), OUTSIDE);
        due("32 outside below", x.step(1, -1), OUTSIDE);
        due("31 steps", x.steps(), 2);
        x.undo();
        due("31 it has them still", x.steps(), 2);
        due("32 it tells them still", x.step(1, 6), 1);
    }

    private static void undo() {
        BeadSchool x = new BeadSchool();
        x.frame(0, 3);
        x.frame(2, 3);
        x.set(0, 100);
        x.set(1, 70);
        long f = x.digest(0);
        long g = x.digest(1);
        int n = x.divide(0, 1, 19);
        for (int k = n - 1; k >= 0; k--) {
            due("34 one less", x.undo(), k);
        }
        due("34 none is left", x.undo(), NO);
        due("34 f as it was", x.digest(0), f);
        due("34 g as it was", x.digest(1), g);
        x.add(0, 9);
        due("34 refused ones leave it", x.add(0, -1), OUTSIDE);
        due("34 one", x.undo(), 0);
        due("34 ..", x.shows(0), 100);
        x.add(0, 0);
        due("34 a method without steps", x.undo(), NO);
    }

    private static void undoIsBarred() {
        for (int which = 0; which < 16; which++) {
            BeadSchool x = new BeadSchool();
            x.frame(0, 3);
            x.frame(0, 3);
            x.add(0, 123);
            boolean bars = between(x, which);
            due("34 behind call " + which, x.undo(), bars ? NO : 2);
            x.add(0, 1);
            due("34 a new method", x.undo(), 0);
        }
    }

    private static boolean between(BeadSchool x, int which) {
        switch (which) {
            case 0: x.rod(1, 0, 2); return true;
            case 1: x.push(1, 0, 0, 0); return true;
            case 2: x.set(1, 0); return true;
            case 3: x.ofFloat(1, 0); return true;
            case 4: x.ofDouble(1, 0); return true;
            case 5: x.copy(1, 0, 1, 0, 0); return true;
            case 6: x.copy(1, 3, 0, 0, 1); return true;
            case 7: x.copy(1, 0, 0, 9, -4); return true;
            case 8: x.copy(1, 9, 1, 0, 1); return true;
            case 9: x.rod(1, 3, 2); return false;
            case 10: x.push(1, 0, 0, 9); return false;
            case 11: x.set(1, 1000); return false;
            case 12: x.ofFloat(1, -1); return false;
            case 13: x.copy(1, 0, x.both(0, 1), 0, 1); return false;
            case 14: x.times(0, -1); return false;
            default: x.pupil(1, 2, 3, 4); return false;
        }
    }

    private static void doubles() {
        BeadSchool x = new BeadSchool();
        x.frame(0, 1);
        x.frame(2, 1);
        x.both(1, 0);
        x.set(2, 88);
        due("22 of a double", x.add(2, 7), 2);
        row("22 double", x, new int[][] {{2, 0, 0, -3, 3, 1, 7}, {2, 1, 0, 1, 1, 0, 1}});
        due("22 its parts", x.shows(0), 5);
        due("22 its parts", x.shows(1), 9);
        due("30 by its own rods", x.tally(1, 1), 1);
        due("34 undo of a part's rod", x.undo(), 1);
        due("34 ..", x.shows(1), 8);
        x.rod(1, 0, -1);
        due("22 stuck", x.add(2, 10), -100);
        due("33 its own number", x.stuck(1), 1);
        due("33 its own frame", x.stuck(2), 2);
    }

    private static void counts() {
        BeadSchool x = new BeadSchool();
        x.frame(0, 1);
        x.add(0, 4);
        x.add(0, 9);
        x.add(0, 10);
        x.times(0, 1);
        x.times(0, -1);
        due("44 not stuck", x.told(2), 2);
        due("44 stuck", x.told(3), 2);
        int t = x.frame(0, 2);
        x.turn(0, t);
        due("44 a turn is one", x.told(2), 3);
    }

    /** Each digit by each, of each kind: the steps' sum and the rods' numbers. */
    private static void everyDigit() {
        for (int kind = 0; kind < 4; kind++) {
            int base = kind == 3 ? 16 : 10;
            for (int c = 0; c < base; c++) {
                for (int d = 1; d < base; d++) {
                    BeadSchool x = new BeadSchool();
                    x.frame(kind, 2);
                    x.set(0, c);
                    int n = x.add(0, d);
                    due("22 how many", n, c + d < base ? 1 : 2);
                    due("22 sum", x.shows(0), c + d);
                    due("22 proper", x.proper(0), 1);
                    due("32 digit", 5 * x.step(0, 2) + x.step(0, 3), c + d < base ? d : d - base);
                    int reason = x.step(0, 4);
                    due("23 back", x.less(0, d), n);
                    due("23 rest", x.shows(0), c);
                    due("32 the reason is mirrored", x.step(0, 4), reason);
                }
            }
        }
    }
}
