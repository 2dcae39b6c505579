/** Promises 35 to 45: pupils held against the steps, exercises, what is told. */
public final class PupilsTest {
    private static final int UNKNOWN = -1, OUTSIDE = -2, NO = -3, FULL = -4, NONE = -5;
    private static final Check check = new Check("pupils");

    /** Kind, seed, the places (a BLANK is _), how many fillings, the first one; reckoned apart from the program. */
    private static final Object[][] EXERCISES = {
        {0, 0, "000236000_36", 1, "000236000236"},
        {0, 1, "838__6001364", 1, "838526001364"},
        {0, 2, "_76817001___", 8, "276817001093"},
        {0, 4, "8179340__7__", 1, "817934001751"},
        {0, 6, "_94515_01_09", 6, "494515001009"},
        {0, -1, "6__4090011_6", 1, "697409001106"},
        {0, 2147483647, "92_177_01_06", 1, "929177001106"},
        {0, -2147483648, "7_8468001236", 1, "768468001236"},
        {0, 48, "_06_8100__87", 100, "006081000087"},
        {1, 0, "236000000_36", 1, "236000000236"},
        {1, 2, "_17676000___", 3, "717676000041"},
        {1, 6, "_15494_00_21", 5, "515494000021"},
        {1, -1, "6__4090002_8", 9, "617409000208"},
        {1, 12345, "756_36_00520", 1, "756236000520"},
        {1, 916, "9__81_00011_", 100, "920810000110"},
        {2, 0, "000236000_00", 1, "000236000000"},
        {2, 2, "_76817552___", 1, "676817552292"},
        {2, 6, "_94515_54_10", 1, "494515254410"},
        {2, -1, "6__4092850_3", 1, "697409285073"},
        {2, 85, "000_5_00__00", 100, "000050000000"},
        // A place behind 11 is 0.
        {0, 41, "_10_1_00052_", 60, "010510000520"},
        {1, 54, "_9630000059_", 1, "896300000596"},
        {2, 41, "_10_1_00510_", 2, "010510005100"},
        // The first one has nothing but 0.
        {2, 92019, "0_0_00000000", 19, "000000000000"},
        {2, 88117, "000____00000", 1000, "000000000000"},
    };

    private PupilsTest() {
    }

    public static void main(String[] args) {
        pupilAndBegin();
        slipAndLapse();
        slipByEachNumber();
        fix();
        fixWhenFull();
        exercises();
        exerciseRefusals();
        told();
        check.end();
    }

    private static void due(String what, long got, long want) {
        check.due(what, got, want);
    }

    private static void pupilAndBegin() {
        BeadSchool x = new BeadSchool();
        due("36 none", x.begin(), 0);
        for (int n = 1; n <= 300; n++) {
            due("35 how many", x.pupil(n, -n, Integer.MIN_VALUE, Integer.MAX_VALUE), n);
        }
        due("35 full", x.pupil(0, 0, 0, 0), FULL);
        due("44 pupil's steps", x.told(5), 300);
        due("36 how many there were", x.begin(), 300);
        due("36 none now", x.told(5), 0);
        due("35 anew", x.pupil(0, 0, 0, 0), 1);
    }

    private static void slipAndLapse() {
        BeadSchool x = new BeadSchool();
        due("37 both rows are empty", x.slip(), NONE);
        due("38 none", x.lapse(), 0);
        x.pupil(0, 1, 0, 2);
        due("37 the method's row has ended", x.slip(), 0);
        due("38 ..", x.lapse(), 4);
        x.frame(0, 3);
        x.add(0, 21);
        due("37 the pupil's row has ended", x.slip(), 1);
        due("38 ..", x.lapse(), 3);
        x.pupil(0, 0, 0, 1);
        due("37 alike", x.slip(), NONE);
        due("38 alike", x.lapse(), 0);
        x.pupil(7, 7, 7, 7);
        due("37 one more", x.slip(), 2);
        due("38 one more", x.lapse(), 4);
        x.add(0, 0);
        due("37 a method without steps", x.slip(), 0);
        x.add(0, 999);
        due("37 stuck ones are held against, too", x.slip(), 0);
        due("38 another rod", x.lapse(), 1);
    }

    private static void slipByEachNumber() {
        int[] right = {0, 1, 0, 2};
        for (int n = 0; n < 4; n++) {
            BeadSchool x = new BeadSchool();
            x.frame(0, 3);
            x.add(0, 21);
            int[] p = right.clone();
            p[n]++;
            x.pupil(p[0], p[1], p[2], p[3]);
            due("37 number " + n, x.slip(), 0);
            due("38 number " + n, x.lapse(), n < 2 ? 1 : 2);
        }
        BeadSchool x = new BeadSchool();
        x.frame(0, 3);
        x.add(0, 21);
        x.pupil(0, 0, 5, 5);
        due("38 both: the rod counts", x.lapse(), 1);
    }

    private static void fix() {
        BeadSchool x = new BeadSchool();
        x.frame(0, 4);
        x.add(0, 4321);
        due("39 three is one more", x.fix(), 1);
        due("39 how many", x.told(5), 1);
        x.pupil(3, 3, 3, 3);
        x.pupil(0, 1, 0, 9);
        due("39 another frame", x.lapse(), 1);
        due("39 becomes the method's", x.fix(), 2);
        due("39 other beads", x.lapse(), 2);
        due("39 becomes the method's", x.fix(), 3);
        due("39 the last", x.fix(), NONE);
        due("39 there is none", x.fix(), NO);
        due("39 as many", x.told(5), 4);
        x.pupil(0, 0, 0, 0);
        x.pupil(0, 0, 0, 0);
        due("39 four: all from there on go", x.fix(), NONE);
        due("39 as many", x.told(5), 4);
        x.add(0, 0);
        due("39 all go", x.fix(), NONE);
        due("39 none", x.told(5), 0);
        due("39 no", x.fix(), NO);
    }

    private static void fixWhenFull() {
        BeadSchool x = new BeadSchool();
        x.frame(3, 14);
        x.frame(2, 18);
        x.set(0, 72057594037927935L);
        int n = x.turn(0, 1);
        check.holds("39 a long row", n > 300);
        for (int k = 0; k < 299; k++) {
            x.pupil(x.step(k, 0), x.step(k, 1), x.step(k, 2), x.step(k, 3));
        }
        due("39 the last that fits", x.fix(), 300);
        due("39 full", x.fix(), FULL);
        due("39 full again", x.fix(), FULL);
        due("38 it ended", x.lapse(), 3);
        due("39 nothing changed", x.told(5), 300);
    }

    private static void exercises() {
        BeadSchool x = new BeadSchool();
        int single = 0;
        for (int n = 0; n < EXERCISES.length; n++) {
            Object[] e = EXERCISES[n];
            due("40 number", x.exercise((Integer) e[0], (Integer) e[1]), n);
            String name = " of " + e[0] + " " + e[1];
            for (int p = 0; p < 12; p++) {
                char c = ((String) e[2]).charAt(p);
                due("41 place " + p + name, x.place(n, p), c == '_' ? NONE : c - '0');
            }
            due("42 fillings" + name, x.fillings(n), (Integer) e[3]);
            for (int p = 0; p < 12; p++) {
                due("43 answer " + p + name, x.answer(n, p), ((String) e[4]).charAt(p) - '0');
            }
            single += (Integer) e[3] == 1 ? 1 : 0;
            due("44 single ones", x.told(6), single);
        }
    }

    private static void exerciseRefusals() {
        BeadSchool x = new BeadSchool();
        due("40 kind -1", x.exercise(-1, 0), OUTSIDE);
        due("40 kind 3", x.exercise(3, 0), OUTSIDE);
        due("41 unknown", x.place(0, 99), UNKNOWN);
        due("42 unknown", x.fillings(0), UNKNOWN);
        due("43 unknown", x.answer(-1, 99), UNKNOWN);
        for (int n = 0; n < 200; n++) {
            due("40 number", x.exercise(n % 3, n), n);
        }
        due("40 full", x.exercise(0, 0), FULL);
        due("40 outside ahead of full", x.exercise(5, 0), OUTSIDE);
        due("41 outside", x.place(199, 12), OUTSIDE);
        due("41 outside below", x.place(199, -1), OUTSIDE);
        due("43 outside", x.answer(199, 12), OUTSIDE);
        due("43 outside below", x.answer(199, Integer.MIN_VALUE), OUTSIDE);
        due("42 unknown", x.fillings(200), UNKNOWN);
        due("44 two hundred", x.told(1), 200);
    }

    private static void told() {
        BeadSchool x = new BeadSchool();
        x.frame(0, 2);
        x.frame(0, -1);
        x.exercise(0, 0);
        x.exercise(0, 2);
        x.add(0, 5);
        x.add(0, 5);
        x.add(0, 500);
        x.shows(9);
        x.part(0, 0);
        x.pupil(1, 2, 3, 4);
        int[] want = {1, 2, 2, 1, 2, 1, 1};
        for (int n = 0; n < 7; n++) {
            due("44 told " + n, x.told(n), want[n]);
        }
        due("44 outside", x.told(7), OUTSIDE);
        due("44 outside below", x.told(-1), OUTSIDE);
        due("45 the latest fault", x.fault(), 1);
        x.frame(0, -1);
        due("45 the latest fault", x.fault(), 4);
        due("45 it stays", x.fault(), 4);
    }
}
