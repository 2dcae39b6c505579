/** Promises 35 to 39: pupils held against the steps. */
final class EdgesOfPupils {
    /** A METHOD of four STEPS, (0, 1, 1, 0), (0, 0, 0, -2), (0, 1, -1, -4), (0, 2, 0, 1), each a PUPIL's STEP, too. */
    private static final String ALIKE = """
            frame 0 3 = 0
            set 0 47 = 1
            add 0 58 = 4
            pupil 0 1 1 0 = 1
            pupil 0 0 0 -2 = 2
            pupil 0 1 -1 -4 = 3
            pupil 0 2 0 1 = 4
            """;

    private EdgesOfPupils() {
    }

    static void all(Edges e) {
        pupil(e);
        begin(e);
        slip(e);
        lapse(e);
        fix(e);
        fixWhenFull(e);
    }

    private static void pupil(Edges e) {
        e.sentence("Promise 35", "A PUPIL's STEP more: FRAME (any number), ROD, UPPER more, LOWER more: how many.", """
            pupil 0 0 0 0 = 1
            pupil -1 -1 -1 -1 = 2
            pupil MIN MIN MIN MIN = 3
            pupil MAX MAX MAX MAX = 4
            told 5 = 4
            """);
        e.sentence("Promise 35", "FULL: there are 300.", """
            299 x pupil 1 2 3 4
            pupil 1 2 3 4 = 300
            pupil 1 2 3 4 ! FULL
            pupil -1 0 0 0 ! FULL
            told 5 = 300
            begin = 300
            pupil 1 2 3 4 = 1
            """);
    }

    private static void begin(Edges e) {
        e.sentence("Promise 36", "No PUPIL's STEPS any more: how many there were.", """
            begin ! 0
            pupil 1 2 3 4 = 1
            begin = 1
            told 5 = 0
            slip = NONE
            begin ! 0
            """, ALIKE + """
            begin = 4
            slip = 0
            lapse = 3
            steps = 4
            undo = 3
            """);
    }

    private static void slip(Edges e) {
        e.sentence("Promise 37", "THE SLIP: the first place where a PUPIL's STEP is not that of the latest METHOD (by these four)",
                instead(0, "1 1 1 0", 1), instead(0, "0 2 1 0", 1), instead(0, "0 1 0 0", 2), instead(0, "0 1 1 1", 2),
                instead(1, "-1 0 0 -2", 1), instead(1, "0 -1 0 -2", 1), instead(2, "0 1 1 -4", 2), instead(2, "0 1 -1 4", 2),
                instead(3, "MAX 2 0 1", 1), instead(3, "0 2 0 0", 2));
        e.sentence("Promise 37", "or one of both rows has ended alone", ALIKE + """
            pupil 0 0 0 0 = 5
            slip ! 4
            add 0 0 = 0
            slip ! 0
            begin = 5
            slip ! NONE
            add 0 1 = 1
            slip ! 0
            add 9 1 ! UNKNOWN
            slip ! 0
            """, """
            pupil 0 0 0 1 = 1
            slip ! 0
            frame 0 1 = 0
            add 0 1 = 1
            slip ! NONE
            undo = 0
            slip ! NONE
            """);
        e.sentence("Promise 37", "NONE: there is none.", """
            slip ! NONE
            """, ALIKE + """
            slip ! NONE
            """, """
            frame 0 1 = 0
            set 0 5 = 1
            add 0 5 = -101
            slip ! 0
            pupil 0 0 -1 0 = 1
            slip ! NONE
            """);
    }

    /** Four STEPS of which one is another; the SLIP is there, of this kind. */
    private static String instead(int place, String step, int lapse) {
        String[] right = {"0 1 1 0", "0 0 0 -2", "0 1 -1 -4", "0 2 0 1"};
        StringBuilder run = new StringBuilder(ALIKE + "begin = 4\n");
        for (int k = 0; k < 4; k++) {
            run.append("pupil " + (k == place ? step : right[k]) + " = " + (k + 1) + "\n");
        }
        return run + "slip ! " + place + "\nlapse ! " + lapse + "\nfix = NONE\nslip = NONE\n";
    }

    private static void lapse(Edges e) {
        e.sentence("Promise 38", "Its kind: 1 another FRAME or ROD, 2 other beads", instead(0, "1 1 1 0", 1), instead(0, "0 0 1 0", 1),
                instead(0, "0 1 2 0", 2), instead(0, "0 1 1 -1", 2), instead(0, "1 1 2 2", 1), instead(0, "0 2 2 2", 1));
        e.sentence("Promise 38", "3 the PUPIL's row has ended, 4 the METHOD's", """
            pupil 0 0 0 1 = 1
            lapse ! 4
            frame 0 2 = 0
            add 0 21 = 2
            lapse ! 1
            begin = 1
            lapse ! 3
            pupil 0 1 0 2 = 1
            lapse ! 3
            pupil 0 0 0 1 = 2
            lapse ! 0
            pupil 0 0 0 1 = 3
            lapse ! 4
            """);
        e.sentence("Promise 38", "0: there is none.", """
            lapse ! 0
            """, ALIKE + """
            lapse ! 0
            """);
    }

    private static void fix(Edges e) {
        e.sentence("Promise 39", "THE SLIP is put right: the PUPIL's STEP becomes the METHOD's (3: it is one more; 4: all from there on go): what slip() is then.", """
            frame 0 3 = 0
            set 0 47 = 1
            add 0 58 = 4
            fix = 1
            told 5 = 1
            fix = 2
            fix = 3
            fix = NONE
            told 5 = 4
            lapse = 0
            """, """
            frame 0 3 = 0
            set 0 47 = 1
            add 0 58 = 4
            pupil 1 1 1 0 = 1
            pupil 0 0 0 0 = 2
            fix = 1
            told 5 = 2
            fix = 2
            lapse = 3
            told 5 = 2
            fix = 3
            told 5 = 3
            """, ALIKE + """
            pupil 0 0 0 0 = 5
            pupil 0 0 0 0 = 6
            fix = NONE
            told 5 = 4
            add 0 0 = 0
            lapse = 4
            fix = NONE
            told 5 = 0
            """);
        e.sentence("Promise 39", "NO: there is none", """
            fix ! NO
            """, ALIKE + """
            fix ! NO
            told 5 = 4
            """);
    }

    private static void fixWhenFull(Edges e) {
        String longMethod = """
            frame 3 14 = 0
            frame 2 18 = 1
            set 0 0xffffffffffffff = 1
            turn 0 1
            """;
        e.sentence("Promise 39", "FULL.", longMethod + """
            299 x fix
            told 5 = 299
            fix = 300
            told 5 = 300
            lapse = 3
            fix ! FULL
            slip = 300
            """, longMethod + """
            300 x pupil 9 9 9 9
            lapse = 1
            fix = 1
            told 5 = 300
            """, """
            frame 0 1 = 0
            add 0 1 = 1
            300 x pupil 0 0 0 2
            lapse = 2
            fix = 1
            lapse = 4
            told 5 = 300
            fix = NONE
            told 5 = 1
            """);
    }
}
