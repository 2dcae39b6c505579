/** What the document's terms say of STEPS and METHODS (2). */
final class EdgesOfSteps {
    private static final String TERMS = "Terms 2";

    private EdgesOfSteps() {
    }

    static void all(Edges e) {
        adding(e);
        taking(e);
        reasons(e);
        refusals(e);
        stuck(e);
        numbers(e);
        sums(e);
        times(e);
        divide(e);
        roots(e);
        turn(e);
    }

    private static void adding(Edges e) {
        e.sentence(TERMS, "A STEP changes one ROD, from the DIGIT c, and what is IN HAND (0 at first).", """
            frame 0 3 = 0
            set 0 44 = 1
            add 0 10 = 1
            row 0 = 0 1 1 -4 2 0 1
            beads? 0 = 4 0 0 1 0 0
            """);
        e.sentence(TERMS, "TO ADD d (1 to BASE - 1) at ROD i: the ROD is WRITTEN c + d, if that is below BASE, and nothing is IN HAND; "
                + "else c + d - BASE, and 1 is: then the next STEP is to ADD 1 at ROD i + 1, and so on.", """
            frame 0 2 = 0
            add 0 9 = 1
            row 0 = 0 0 1 4 1 0 9
            add 0 1 = 2
            row 0 = 0 0 -1 -4 3 1 1
            row 1 = 0 1 0 1 1 0 1
            shows 0 = 10
            """, """
            frame 2 2 = 0
            set 0 1 = 1
            add 0 8 = 1
            row 0 = 0 0 0 8 1 0 8
            add 0 9 = 2
            row 0 = 0 0 0 -1 3 1 9
            row 1 = 0 1 0 1 1 0 1
            beads? 0 = 8 BEYOND 1 BEYOND
            """, """
            frame 3 2 = 0
            set 0 14 = 1
            add 0 1 = 1
            row 0 = 0 0 0 1 1 0 1
            add 0 1 = 2
            row 0 = 0 0 -2 -5 3 1 1
            row 1 = 0 1 0 1 1 0 1
            add 0 15 = 1
            row 0 = 0 0 2 5 1 0 15
            add 0 15 = 2
            row 0 = 0 0 0 -1 3 1 15
            shows 0 = 0x2e
            """, """
            frame 0 4 = 0
            set 0 999 = 1
            add 0 1 = 4
            row 2 = 0 2 -1 -4 3 1 1
            row 3 = 0 3 0 1 1 0 1
            shows 0 = 1000
            """, """
            frame 1 18 = 0
            set 0 99999999999999999 = 1
            add 0 1 = 18
            shows 0 = 100000000000000000
            """);
    }

    private static void taking(Edges e) {
        e.sentence(TERMS, "TO TAKE d: c - d, if that is not below 0; else c - d + BASE, and -1 is IN HAND: "
                + "then the next STEP is to TAKE 1 at ROD i + 1, and so on.", """
            frame 0 2 = 0
            set 0 19 = 1
            less 0 9 = 1
            row 0 = 0 0 -1 -4 1 0 -9
            less 0 1 = 2
            row 0 = 0 0 1 4 3 -1 -1
            row 1 = 0 1 0 -1 1 0 -1
            shows 0 = 9
            """, """
            frame 3 2 = 0
            set 0 0x1f = 1
            less 0 15 = 1
            row 0 = 0 0 -2 -5 1 0 -15
            less 0 15 = 2
            row 0 = 0 0 0 1 3 -1 -15
            row 1 = 0 1 0 -1 1 0 -1
            shows 0 = 1
            """, """
            frame 2 4 = 0
            set 0 1000 = 1
            less 0 1 = 4
            row 0 = 0 0 0 9 3 -1 -1
            row 2 = 0 2 0 9 3 -1 -1
            row 3 = 0 3 0 -1 1 0 -1
            shows 0 = 999
            """);
    }

    private static void reasons(Edges e) {
        e.sentence(TERMS, "Its REASON, by UPPER and LOWER: of an ADDED one with nothing IN HAND behind it 1 DIRECT: neither is less than before, else 2 FIVE",
                reason("add", 0, 0, 4, 1), reason("add", 0, 0, 5, 1), reason("add", 0, 4, 5, 1), reason("add", 0, 5, 4, 1),
                reason("add", 0, 4, 1, 2), reason("add", 0, 1, 4, 2), reason("add", 0, 3, 3, 2), reason("add", 2, 4, 1, 1),
                reason("add", 3, 9, 1, 2), reason("add", 3, 14, 1, 1), reason("add", 3, 5, 5, 1), reason("add", 3, 0, 15, 1),
                reason("add", 3, 4, 6, 2), reason("add", 3, 9, 6, 1));
        e.sentence(TERMS, "with 1 IN HAND 3 TEN: neither is more than before, else 4 BOTH.",
                reason("add", 0, 5, 5, 3), reason("add", 0, 4, 6, 3), reason("add", 0, 9, 9, 3), reason("add", 0, 9, 1, 3),
                reason("add", 0, 5, 6, 4), reason("add", 0, 5, 9, 4), reason("add", 0, 6, 8, 4), reason("add", 2, 5, 6, 3),
                reason("add", 3, 15, 1, 3), reason("add", 3, 10, 11, 3), reason("add", 3, 10, 7, 4), reason("add", 3, 5, 15, 4));
        e.sentence(TERMS, "Of a TAKEN one the same with less for more, more for less.",
                reason("less", 0, 4, 4, 1), reason("less", 0, 5, 5, 1), reason("less", 0, 9, 5, 1), reason("less", 0, 5, 1, 2),
                reason("less", 0, 6, 3, 2), reason("less", 2, 5, 1, 1), reason("less", 3, 10, 1, 2), reason("less", 3, 15, 15, 1),
                reason("less", 0, 0, 5, 3), reason("less", 0, 0, 1, 3), reason("less", 0, 5, 9, 3), reason("less", 0, 3, 7, 4),
                reason("less", 0, 4, 9, 4), reason("less", 2, 4, 9, 3), reason("less", 3, 0, 1, 3), reason("less", 3, 1, 7, 4),
                reason("less", 3, 14, 15, 3), reason("less", 3, 4, 15, 4));
    }

    /** The REASON of the first STEP, of a kind's ROD with the DIGIT c. */
    private static String reason(String call, int kind, int c, int d, int reason) {
        int base = kind == 3 ? 16 : 10;
        int hand = call.equals("add") ? (c + d >= base ? 1 : 0) : c < d ? -1 : 0;
        return "frame " + kind + " 2 = 0\nset 0 " + (base + c) + " = 1\n" + call + " 0 " + d + " = " + (hand == 0 ? 1 : 2)
                + "\nstep 0 4 = " + reason + "\nstep 0 5 = " + hand + "\nstep 0 6 = " + (call.equals("add") ? d : -d);
    }

    private static void refusals(Edges e) {
        e.sentence(TERMS, "A METHOD is a row of STEPS (always fewer than 5000).", """
            frame 3 14 = 0
            frame 0 18 = 1
            set 0 0xf3be1dc2af8b9e = 1
            turn 0 1 = 553
            steps = 553
            step 552 0 = 1
            step 553 0 ! UNKNOWN
            shows 1 = 68607454370302878
            20 x undo
            undo = 532
            """);
        e.sentence(TERMS, "Refused it is (NO) if a ROD of its FRAMES that can be read is not PROPER", """
            frame 1 2 = 0
            frame 1 2 = 1
            push 1 1 0 5 = 5
            add 1 0 ! NO
            less 1 0 ! NO
            times 1 0 ! NO
            divide 1 0 1 ! NO
            divide 0 1 1 ! NO
            root 1 0 ! NO
            root 0 1 ! NO
            cube 1 0 ! NO
            cube 0 1 ! NO
            turn 1 0 ! NO
            turn 0 1 ! NO
            rod 1 0 -1 = 1
            times 1 0 ! NO
            add 0 1 = 1
            rod 1 1 1 = 1
            push 1 1 0 5 = 5
            add 1 0 = 0
            times 1 0 ! NULL
            """, """
            frame 2 1 = 0
            frame 0 1 = 1
            both 0 1 = 2
            push 0 0 0 10 = 10
            add 2 1 ! NO
            add 1 1 = 1
            push 0 0 0 -1 = 9
            add 2 1 = 1
            """);
        e.sentence(TERMS, "if its FRAMES (f, g) have a FRAME in common or, but for TURN, unlike BASES.", """
            frame 0 1 = 0
            frame 2 1 = 1
            frame 3 1 = 2
            both 0 1 = 3
            divide 0 0 1 ! NO
            root 0 0 ! NO
            cube 0 0 ! NO
            turn 0 0 ! NO
            divide 3 0 1 ! NO
            divide 1 3 1 ! NO
            root 3 1 ! NO
            cube 0 3 ! NO
            turn 3 0 ! NO
            turn 1 3 ! NO
            divide 0 2 1 ! NO
            divide 2 0 1 ! NO
            root 0 2 ! NO
            root 2 0 ! NO
            cube 0 2 ! NO
            cube 2 0 ! NO
            turn 0 2 = 0
            turn 2 0 = 0
            divide 0 1 1 = 0
            """, """
            frame 0 1 = 0
            frame 0 1 = 1
            frame 0 1 = 2
            both 0 1 = 3
            both 2 1 = 4
            divide 3 4 1 ! NO
            root 4 3 ! NO
            cube 3 4 ! NO
            turn 3 4 ! NO
            divide 3 2 1 = 0
            """);
    }

    private static void stuck(Edges e) {
        e.sentence(TERMS, "It is STUCK at a STEP: 1 the ROD is missing, 2 there is no such ROD, or it has not its numbers.", """
            frame 0 2 = 0
            rod 0 1 -1 = 1
            add 0 10 = -100
            stuck 0 = 1
            stuck 1 = 1
            add 0 100 = -100
            stuck 0 = 2
            stuck 1 = 2
            rod 0 1 1 = 1
            add 0 10 = -100
            stuck 0 = 2
            stuck 1 = 1
            rod 0 1 0 = 1
            less 0 10 = -100
            stuck 0 = 2
            rod 0 1 2 = 1
            add 0 10 = 1
            stuck 0 = 0
            """, """
            frame 2 1 = 0
            rod 0 0 0 = 1
            add 0 1 = -100
            stuck 0 = 2
            rod 0 0 -1 = 1
            add 0 1 = -100
            stuck 0 = 1
            rod 0 0 1 = 1
            add 0 1 = 1
            stuck 0 = 0
            frame 0 0 = 1
            add 1 1 = -100
            stuck 0 = 2
            stuck 1 = 0
            stuck 2 = 1
            """);
        e.sentence(TERMS, "Then its FRAMES are as they were ahead of it; its STEPS are told nevertheless, but none STANDS; "
                + "it answers -100 less how many there are (the one that was STUCK is none).", """
            frame 0 2 = 0
            set 0 95 = 1
            add 0 107 = -100
            steps = 0
            step 0 0 ! UNKNOWN
            add 0 7 = -102
            steps = 2
            row 0 = 0 0 -1 2 4 1 7
            row 1 = 0 1 -1 -4 3 1 1
            step 2 0 ! UNKNOWN
            beads? 0 = 0 1 4 1
            undo ! NO
            told 3 = 2
            told 2 = 0
            """, """
            frame 0 3 = 0
            frame 0 2 = 1
            set 0 999 = 1
            set 1 99 = 1
            rod 1 0 1 = 1
            divide 0 1 9 = -101
            row 0 = 1 1 -1 -4 1 0 -9
            stuck 2 = 1
            digit 1 1 = 9
            shows 0 = 999
            undo ! NO
            """, """
            frame 0 3 = 0
            frame 2 2 = 1
            set 0 144 = 1
            set 1 77 = 1
            rod 1 0 0 = 1
            root 0 1 = -101
            cube 0 1 = -101
            turn 0 1 = -101
            digit 1 1 = 7
            shows 0 = 144
            undo ! NO
            """, """
            frame 0 2 = 0
            frame 0 1 = 1
            set 0 95 = 1
            add 0 3 = 1
            add 0 2 = -102
            undo ! NO
            shows 0 = 98
            less 0 1 = 1
            times 0 2 = -102
            undo ! NO
            turn 0 1 = -102
            undo ! NO
            shows 0 = 97
            """);
        e.sentence(TERMS, "Otherwise all STAND, and it answers how many.", """
            frame 0 2 = 0
            set 0 95 = 1
            add 0 0 = 0
            undo ! NO
            less 0 6 = 2
            undo = 1
            undo = 0
            undo ! NO
            shows 0 = 95
            """);
    }

    private static void numbers(Edges e) {
        e.sentence(TERMS, "(X is what f shows, ahead of all: FAULTS.", """
            frame 0 3 = 0
            frame 0 3 = 1
            set 1 999 = 1
            rod 0 2 -1 = 1
            rod 1 2 1 = 1
            times 0 0 ! NULL
            divide 0 1 1 ! NULL
            divide 0 1 0 ! NULL
            root 0 1 ! NULL
            cube 0 1 ! NULL
            turn 0 1 ! NULL
            rod 0 1 0 = 1
            times 0 0 ! BEYOND
            divide 0 1 0 ! BEYOND
            root 0 1 ! BEYOND
            cube 0 1 ! BEYOND
            turn 0 1 ! BEYOND
            steps = 0
            told 3 = 0
            """);
        e.sentence(TERMS, "DIGITS of a number are those to its BASE, without 0 in front: 0 has none.", """
            frame 0 0 = 0
            frame 0 0 = 1
            add 0 0 = 0
            less 0 0 = 0
            times 0 0 = 0
            root 0 1 = 0
            cube 0 1 = 0
            turn 0 1 = 0
            divide 0 1 1 = 0
            add 0 1 = -100
            """, """
            frame 3 2 = 0
            frame 0 2 = 1
            add 0 16 = 1
            row 0 = 0 1 0 1 1 0 1
            add 1 16 = 2
            row 0 = 1 1 0 1 1 0 1
            row 1 = 1 0 1 1 1 0 6
            """, """
            frame 0 18 = 0
            frame 3 14 = 1
            add 0 LMAX = -100
            stuck 1 = 18
            add 0 1000000000000000000 = -100
            stuck 1 = 18
            add 0 999999999999999999 = 18
            add 1 LMAX = -100
            stuck 1 = 15
            add 1 0x100000000000000 = -100
            stuck 1 = 14
            add 1 0xffffffffffffff = 14
            """);
        e.sentence(TERMS, "Numbers are not below 0.", """
            frame 0 2 = 0
            frame 0 2 = 1
            add 0 -1 ! OUTSIDE
            less 0 -1 ! OUTSIDE
            times 0 -1 ! OUTSIDE
            divide 0 1 -1 ! OUTSIDE
            add 0 LMIN ! OUTSIDE
            less 0 LMIN ! OUTSIDE
            times 0 LMIN ! OUTSIDE
            divide 0 1 LMIN ! OUTSIDE
            """);
        e.sentence(TERMS, "A DIGIT 0 is neither ADDED nor TAKEN.)", """
            frame 0 3 = 0
            rod 0 1 -1 = 1
            add 0 101 = 2
            row 0 = 0 2 0 1 1 0 1
            row 1 = 0 0 0 1 1 0 1
            less 0 101 = 2
            row 0 = 0 2 0 -1 1 0 -1
            row 1 = 0 0 0 -1 1 0 -1
            """);
    }

    private static void sums(Edges e) {
        e.sentence(TERMS, "SUM: DIGITS of v, the highest first, each is ADDED at its ROD.", """
            frame 0 3 = 0
            set 0 47 = 1
            add 0 58 = 4
            row 0 = 0 1 1 0 1 0 5
            row 1 = 0 0 0 -2 3 1 8
            row 2 = 0 1 -1 -4 3 1 1
            row 3 = 0 2 0 1 1 0 1
            """);
        e.sentence(TERMS, "LESS: likewise TAKEN.", """
            frame 0 3 = 0
            set 0 105 = 1
            less 0 58 = 4
            row 0 = 0 1 1 0 3 -1 -5
            row 1 = 0 2 0 -1 1 0 -1
            row 2 = 0 0 0 2 3 -1 -8
            row 3 = 0 1 -1 4 2 0 -1
            less 0 48 = -104
            stuck 0 = 2
            stuck 1 = 3
            less 0 47 = 2
            shows 0 = 0
            less 0 1 = -103
            """);
        e.sentence(TERMS, "CLEAR: from the highest ROD to ROD 0 each is read (STUCK) and its DIGIT is TAKEN.", """
            frame 0 1 = 0
            frame 0 3 = 1
            set 1 709 = 1
            divide 0 1 1 = 2
            row 0 = 1 2 -1 -2 1 0 -7
            row 1 = 1 0 -1 -4 1 0 -9
            divide 0 1 1 = 0
            rod 1 0 -1 = 1
            rod 1 2 1 = 1
            divide 0 1 1 = -100
            stuck 0 = 2
            stuck 1 = 2
            rod 1 2 2 = 1
            divide 0 1 1 = -100
            stuck 0 = 1
            stuck 1 = 0
            """);
    }

    private static void times(Edges e) {
        e.sentence(TERMS, "TIMES: f is CLEARED. By DIGITS x of X, the highest first, at i (but 0), by DIGITS y of v, the highest first, at j: "
                + "THE PART x * y: its higher DIGIT (of two) is ADDED at ROD i + j + 1, then the lower one at i + j.", """
            frame 0 4 = 0
            set 0 12 = 1
            times 0 34 = 7
            row 0 = 0 1 0 -1 1 0 -1
            row 1 = 0 0 0 -2 1 0 -2
            row 2 = 0 2 0 3 1 0 3
            row 3 = 0 1 0 4 1 0 4
            row 4 = 0 1 0 -4 3 1 6
            row 5 = 0 2 0 1 1 0 1
            row 6 = 0 0 1 3 1 0 8
            shows 0 = 408
            """, """
            frame 0 3 = 0
            times 0 0 = 0
            times 0 LMAX = 0
            set 0 101 = 1
            times 0 5 = 4
            row 0 = 0 2 0 -1 1 0 -1
            row 1 = 0 0 0 -1 1 0 -1
            row 2 = 0 2 1 0 1 0 5
            row 3 = 0 0 1 0 1 0 5
            times 0 1 = 4
            shows 0 = 505
            times 0 0 = 2
            shows 0 = 0
            """, """
            frame 2 1 = 0
            set 0 3 = 1
            times 0 3 = 2
            shows 0 = 9
            times 0 2 = -101
            stuck 0 = 2
            stuck 1 = 1
            shows 0 = 9
            """, """
            frame 3 2 = 0
            set 0 15 = 1
            times 0 15 = 3
            row 1 = 0 1 2 4 1 0 14
            row 2 = 0 0 0 1 1 0 1
            """, """
            frame 1 18 = 0
            set 0 1 = 1
            times 0 LMAX = -101
            stuck 1 = 18
            set 0 999999999 = 1
            times 0 999999999
            shows 0 = 999999998000000001
            """);
    }

    private static void divide(Edges e) {
        String words = "DIVIDE: ZERO: v is 0. g is CLEARED. v has n DIGITS, the highest one h. For k from how many X has less n down to 0: ";
        e.sentence(TERMS, words, """
            frame 0 2 = 0
            frame 0 2 = 1
            set 1 5 = 1
            divide 0 1 0 ! ZERO
            digit 1 0 = 5
            divide 0 1 1 = 1
            shows 1 = 0
            set 0 5 = 1
            set 1 50 = 1
            divide 0 1 10 = 1
            shows 1 = 0
            shows 0 = 5
            divide 0 1 LMAX = 0
            set 0 7 = 1
            divide 0 1 7 = 2
            row 0 = 1 0 0 1 1 0 1
            row 1 = 0 0 -1 -2 1 0 -7
            """);
        e.sentence(TERMS, "R is what f shows; a TRIAL: R / BASE^(k + n - 1) / h, BASE - 1 at most, is ADDED at ROD k of g", """
            frame 0 2 = 0
            frame 0 1 = 1
            set 0 10 = 1
            divide 0 1 7 = 3
            row 0 = 1 0 0 1 1 0 1
            shows 0 = 3
            set 0 99 = 1
            divide 0 1 9 = -101
            stuck 1 = 1
            stuck 2 = 1
            """, """
            frame 0 3 = 0
            frame 0 2 = 1
            set 0 100 = 1
            divide 0 1 19 = 12
            row 0 = 1 1 0 1 1 0 1
            row 2 = 1 0 1 4 1 0 9
            shows 0 = 5
            shows 1 = 5
            """, """
            frame 3 3 = 0
            frame 3 2 = 1
            set 0 0x100 = 1
            divide 0 1 0x1f = 15
            row 2 = 1 0 2 5 1 0 15
            shows 0 = 8
            shows 1 = 8
            """);
        e.sentence(TERMS, "while TRIAL * v * BASE^k is more than R, 1 is TAKEN there, and the TRIAL is one less.", """
            frame 0 2 = 0
            frame 0 2 = 1
            set 0 38 = 1
            divide 0 1 19 = 5
            row 0 = 1 0 0 3 1 0 3
            row 1 = 1 0 0 -1 1 0 -1
            shows 1 = 2
            shows 0 = 0
            set 0 37 = 1
            divide 0 1 19 = 7
            shows 1 = 1
            shows 0 = 18
            """, """
            frame 0 3 = 0
            frame 0 2 = 1
            set 0 100 = 1
            divide 0 1 19 = 12
            row 1 = 1 1 0 -1 1 0 -1
            row 3 = 1 0 0 -1 1 0 -1
            row 6 = 1 0 0 -1 1 0 -1
            row 7 = 0 1 1 0 3 -1 -5
            """, """
            frame 1 18 = 0
            frame 1 18 = 1
            set 0 999999999999999999 = 1
            divide 0 1 999999999999999999 = 19
            shows 0 = 0
            shows 1 = 1
            set 0 999999999999999998 = 1
            divide 0 1 999999999999999999 = 3
            shows 0 = 999999999999999998
            shows 1 = 0
            """);
        e.sentence(TERMS, "Then by DIGITS z of v, the highest first, at j: of TRIAL * z the higher DIGIT is TAKEN at ROD k + j + 1 of f, then the lower one at k + j.", """
            frame 0 3 = 0
            frame 0 2 = 1
            set 0 100 = 1
            divide 0 1 19 = 12
            row 7 = 0 1 1 0 3 -1 -5
            row 8 = 0 2 0 -1 1 0 -1
            row 9 = 0 1 -1 1 2 0 -4
            row 10 = 0 0 1 0 3 -1 -5
            row 11 = 0 1 0 -1 1 0 -1
            """, """
            frame 2 3 = 0
            frame 2 1 = 1
            set 0 918 = 1
            divide 0 1 102 = 4
            row 0 = 1 0 0 9 1 0 9
            row 1 = 0 2 0 -9 1 0 -9
            row 2 = 0 1 0 -1 1 0 -1
            row 3 = 0 0 0 -8 1 0 -8
            """, """
            frame 0 4 = 0
            frame 0 2 = 1
            set 0 2000 = 1
            divide 0 1 50 = 2
            row 0 = 1 1 0 4 1 0 4
            row 1 = 0 3 0 -2 1 0 -2
            set 0 4275 = 1
            set 1 0 = 1
            divide 0 1 855 = 6
            row 0 = 1 0 1 0 1 0 5
            row 1 = 0 3 0 -4 1 0 -4
            row 2 = 0 2 0 -2 1 0 -2
            row 3 = 0 1 -1 0 1 0 -5
            row 4 = 0 1 0 -2 1 0 -2
            row 5 = 0 0 -1 0 1 0 -5
            """);
    }

    private static void roots(Edges e) {
        e.sentence(TERMS, "ROOT: g is CLEARED; P is 0. For k from (how many DIGITS X has, and 1) / 2, less 1, down to 0: ", """
            frame 0 3 = 0
            frame 0 2 = 1
            set 1 40 = 1
            root 0 1 = 1
            shows 1 = 0
            set 0 1 = 1
            root 0 1 = 2
            row 0 = 1 0 0 1 1 0 1
            row 1 = 0 0 0 -1 1 0 -1
            frame 0 1 = 2
            set 0 99 = 1
            root 0 2 = 3
            set 0 100 = 1
            root 0 2 = -101
            stuck 0 = 2
            stuck 1 = 1
            stuck 2 = 2
            shows 2 = 9
            """);
        e.sentence(TERMS, "y is the greatest one from 0 to BASE - 1 for which (2 * BASE * P + y) * y * BASE^2k is not more than f shows; it is ADDED at ROD k of g", """
            frame 0 2 = 0
            frame 2 1 = 1
            set 0 81 = 1
            root 0 1 = 3
            row 0 = 1 0 0 9 1 0 9
            shows 0 = 0
            set 0 80 = 1
            root 0 1 = 5
            row 1 = 1 0 0 8 1 0 8
            shows 0 = 16
            """, """
            frame 3 2 = 0
            frame 3 1 = 1
            set 0 225 = 1
            root 0 1 = 3
            row 0 = 1 0 2 5 1 0 15
            shows 0 = 0
            set 0 224 = 1
            root 0 1 = 5
            shows 1 = 14
            shows 0 = 28
            set 0 255 = 1
            root 0 1 = 4
            shows 1 = 15
            shows 0 = 30
            """, """
            frame 0 3 = 0
            frame 0 2 = 1
            set 0 100 = 1
            root 0 1 = 2
            row 0 = 1 1 0 1 1 0 1
            row 1 = 0 2 0 -1 1 0 -1
            shows 1 = 10
            """);
        e.sentence(TERMS, "the DIGITS of (2 * BASE * P + y) * y, the highest first, at j, are TAKEN at ROD 2k + j of f; P becomes BASE * P + y.", """
            frame 0 3 = 0
            frame 2 2 = 1
            set 0 150 = 1
            root 0 1 = 6
            row 1 = 0 2 0 -1 1 0 -1
            row 2 = 1 0 0 2 1 0 2
            row 3 = 0 1 -1 1 2 0 -4
            row 4 = 0 0 1 1 3 -1 -4
            row 5 = 0 1 0 -1 1 0 -1
            shows 1 = 12
            shows 0 = 6
            """, """
            frame 0 18 = 0
            frame 0 9 = 1
            set 0 999999999999999999 = 1
            root 0 1
            shows 1 = 999999999
            shows 0 = 1999999998
            set 0 999999998000000000 = 1
            root 0 1
            shows 1 = 999999998
            shows 0 = 1999999996
            """, """
            frame 3 14 = 0
            frame 3 7 = 1
            set 0 0xffffffffffffff = 1
            root 0 1
            shows 1 = 0xfffffff
            shows 0 = 0x1ffffffe
            """);
        e.sentence(TERMS, "CUBE: likewise by threes: (.. and 2) / 3; (3 * BASE * BASE * P * P + 3 * BASE * P * y + y * y) * y; BASE^3k; ROD 3k + j.", """
            frame 0 4 = 0
            frame 0 2 = 1
            set 1 30 = 1
            cube 0 1 = 1
            set 0 7 = 1
            cube 0 1 = 2
            shows 0 = 6
            set 0 8 = 1
            cube 0 1 = 3
            shows 1 = 2
            shows 0 = 0
            set 0 1000 = 1
            set 1 0 = 1
            cube 0 1 = 2
            row 0 = 1 1 0 1 1 0 1
            row 1 = 0 3 0 -1 1 0 -1
            shows 1 = 10
            frame 0 1 = 2
            set 0 999 = 1
            cube 0 2 = 4
            shows 2 = 9
            shows 0 = 270
            set 0 728 = 1
            set 2 0 = 1
            cube 0 2 = 4
            shows 2 = 8
            shows 0 = 216
            set 0 1000 = 1
            cube 0 2 = -101
            stuck 1 = 1
            stuck 2 = 2
            """, """
            frame 0 4 = 0
            frame 2 2 = 1
            set 0 1730 = 1
            cube 0 1 = 7
            row 0 = 1 1 0 1 1 0 1
            row 1 = 0 3 0 -1 1 0 -1
            row 2 = 1 0 0 2 1 0 2
            row 3 = 0 2 -1 -2 1 0 -7
            row 4 = 0 1 0 -2 1 0 -2
            row 5 = 0 0 0 2 3 -1 -8
            row 6 = 0 1 0 -1 1 0 -1
            """, """
            frame 3 3 = 0
            frame 3 1 = 1
            set 0 0xd2f = 1
            cube 0 1 = 4
            shows 1 = 15
            shows 0 = 0
            set 0 0xd2e = 1
            cube 0 1
            shows 1 = 14
            shows 0 = 630
            set 0 0xfff = 1
            cube 0 1
            shows 1 = 15
            shows 0 = 720
            """, """
            frame 1 18 = 0
            frame 1 6 = 1
            set 0 999999999999999999 = 1
            cube 0 1
            shows 1 = 999999
            shows 0 = 2999997000000
            """);
    }

    private static void turn(Edges e) {
        e.sentence(TERMS, "TURN: g is CLEARED. By DIGITS of X (to f's BASE), the highest first: "
                + "TIMES by f's BASE on g (as told, with g for f), then SUM of the DIGIT (of 0, too) on g.", """
            frame 3 1 = 0
            frame 0 2 = 1
            set 1 73 = 1
            turn 0 1 = 2
            shows 1 = 0
            set 0 15 = 1
            turn 0 1 = 2
            row 0 = 1 1 0 1 1 0 1
            row 1 = 1 0 1 0 1 0 5
            shows 0 = 15
            frame 0 1 = 2
            turn 0 2 = -100
            stuck 1 = 1
            set 0 9 = 1
            turn 0 2 = 1
            """, """
            frame 0 2 = 0
            frame 3 1 = 1
            set 0 10 = 1
            turn 0 1 = 3
            row 0 = 1 0 0 1 1 0 1
            row 1 = 1 0 0 -1 1 0 -1
            row 2 = 1 0 2 0 1 0 10
            digit 1 0 = 10
            set 0 16 = 1
            turn 0 1 = -105
            stuck 1 = 1
            digit 1 0 = 10
            """, """
            frame 0 2 = 0
            frame 2 2 = 1
            set 0 10 = 1
            turn 0 1 = 3
            row 2 = 1 1 0 1 1 0 1
            shows 1 = 10
            """, """
            frame 3 2 = 0
            frame 0 4 = 1
            set 0 0xff = 1
            turn 0 1 = 11
            row 0 = 1 1 0 1 1 0 1
            row 1 = 1 0 1 0 1 0 5
            row 2 = 1 1 0 -1 1 0 -1
            row 3 = 1 0 -1 0 1 0 -5
            row 4 = 1 2 0 1 1 0 1
            row 5 = 1 1 1 1 1 0 6
            row 6 = 1 1 -1 0 3 1 5
            row 7 = 1 2 0 1 1 0 1
            row 8 = 1 1 0 3 1 0 3
            row 9 = 1 1 1 -4 2 0 1
            row 10 = 1 0 1 0 1 0 5
            shows 1 = 255
            """);
    }
}
