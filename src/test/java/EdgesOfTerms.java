/** What the document says ahead of its promises of calls, refusals (Terms), FRAMES (1) and ASKS (3). */
final class EdgesOfTerms {
    private EdgesOfTerms() {
    }

    static void all(Edges e) {
        whatItIs(e);
        refusals(e);
        faults(e);
        framesAndKinds(e);
        rods(e);
        doubles(e);
        written(e);
        asks(e);
    }

    private static void whatItIs(Edges e) {
        e.sentence("What it is", "An object is used for at most 512 calls after it has been made", """
            30 x frame 0 18
            200 x exercise 2 -1
            280 x pupil 1 2 3 4
            told 1 = 200
            told 5 = 280
            """);
        e.sentence("What it is", "what later calls answer is free.", """
            511 x frame 3 15
            told 0 = 0
            """);
    }

    private static void refusals(Edges e) {
        e.sentence("Terms", "Of several refusals the first one here: UNKNOWN (there is no such FRAME, EXERCISE), "
                + "OUTSIDE (a number is not as told), NO (as told), FULL.", """
            30 x frame 1 2
            both 30 30 ! UNKNOWN
            both 0 0 ! NO
            both 0 1 ! FULL
            frame 4 -1 ! OUTSIDE
            frame 0 -1 ! FULL
            """, """
            200 x exercise 0 7
            exercise 3 0 ! OUTSIDE
            exercise 2 0 ! FULL
            place 200 12 ! UNKNOWN
            place 199 12 ! OUTSIDE
            answer 200 -1 ! UNKNOWN
            answer 199 -1 ! OUTSIDE
            """, """
            frame 1 2 = 0
            frame 1 2 = 1
            rod 0 0 -1 = 1
            push 1 0 0 5 = 5
            divide 2 2 -1 ! UNKNOWN
            divide 0 2 -1 ! UNKNOWN
            divide 0 0 -1 ! OUTSIDE
            divide 0 1 0 ! NO
            set 1 0 = 1
            divide 0 1 0 ! NULL
            rod 0 0 2 = 1
            divide 0 1 0 ! ZERO
            """, """
            step 0 7 ! UNKNOWN
            frame 0 1 = 0
            add 0 1 = 1
            step 1 7 ! UNKNOWN
            step 0 7 ! OUTSIDE
            """, """
            frame 0 2 = 0
            frame 2 2 = 1
            frame 0 2 = 2
            both 0 2 = 3
            copy 4 9 1 9 1 ! UNKNOWN
            copy 0 9 4 9 1 ! UNKNOWN
            copy 0 9 1 9 1 ! NO
            copy 3 9 1 9 1 ! CAST
            copy 1 9 3 9 1 ! CAST
            copy 0 9 2 9 1 = BEYOND
            rod 4 9 3 ! UNKNOWN
            rod 3 9 3 ! OUTSIDE
            rod 3 9 2 ! CAST
            rod 0 9 2 ! BEYOND
            """, """
            frame 0 2 = 0
            rod 0 1 -1 = 1
            set 1 -1 ! UNKNOWN
            set 0 -1 ! OUTSIDE
            set 0 100 ! NO
            set 0 99 ! NULL
            ofFloat 1 f:NaN ! UNKNOWN
            ofFloat 0 f:NaN ! OUTSIDE
            ofFloat 0 f:100 ! NO
            ofFloat 0 f:99 ! NULL
            ofDouble 1 d:-1 ! UNKNOWN
            ofDouble 0 d:-1 ! OUTSIDE
            ofDouble 0 d:100 ! NO
            ofDouble 0 d:99 ! NULL
            """);
    }

    private static void faults(Edges e) {
        e.sentence("Terms", "Behind them FAULTS, the machine's: 1 NULL, 2 BEYOND (an index), 3 CAST, "
                + "4 SIZE (a length below 0), 5 ZERO (divided by 0)", """
            frame 0 2 = 0
            frame 0 2 = 1
            rod 0 1 -1 = 1
            fault = 0
            digit 0 1 ! NULL
            fault = 1
            digit 0 2 ! BEYOND
            fault = 2
            meant 0 2 ! CAST
            fault = 3
            frame 0 -1 ! SIZE
            fault = 4
            divide 1 0 0 ! ZERO
            fault = 5
            """);
        e.sentence("Terms", "the first that is come to, in the order told", """
            frame 0 4 = 0
            frame 0 4 = 1
            rod 0 1 1 = 1
            rod 0 2 -1 = 1
            set 0 5 ! BEYOND
            rod 0 0 -1 = 1
            set 0 5 ! NULL
            divide 0 1 0 ! NULL
            rod 0 0 0 = 1
            divide 0 1 0 ! BEYOND
            """, """
            frame 0 1 = 0
            frame 0 1 = 1
            both 0 1 = 2
            rod 2 2 -1 ! CAST
            copy 2 5 2 5 -1 ! CAST
            """);
        e.sentence("Terms", "the call answers -10 less it.", """
            frame 2 1 = 0
            frame 2 1 = 1
            rod 0 0 -1 = 1
            digit 0 0 ! -11
            digit 0 1 ! -12
            asks 0 3 ! -13
            frame 2 -1 ! -14
            divide 1 0 0 ! -15
            """);
        e.sentence("Terms", "Calls that answer a long: LOST for all of these.", """
            shows 0 ! LOST
            digest 0 ! LOST
            part 0 0 ! LOST NULL
            frame 0 2 = 0
            shows -1 ! LOST
            digest 1 ! LOST
            rod 0 0 -1 = 1
            shows 0 ! LOST NULL
            rod 0 0 1 = 1
            shows 0 ! LOST BEYOND
            rod 0 0 2 = 1
            times 0 5 = 0
            part 0 0 ! LOST BEYOND
            told 4 = 4
            restDouble d:5 d:0 = 9221120237041090560
            told 4 = 4
            """);
        e.sentence("Terms", "All of them change nothing (but as told, and fault()).", """
            frame 0 3 = 0
            frame 1 3 = 1
            set 0 123 = 1
            set 1 45 = 1
            pupil 0 1 2 3 = 1
            exercise 0 2 = 0
            copy 0 0 1 2 1 = 1
            asks 1 2 = 12
            times 0 7 = 8
            frame 9 1 ! OUTSIDE
            frame 0 -1 ! SIZE
            both 0 0 ! NO
            rod 0 3 1 ! BEYOND
            rod 0 0 3 ! OUTSIDE
            push 0 0 0 9 ! NO
            beads 0 5 0 ! BEYOND
            digit 0 5 ! BEYOND
            set 0 1000 ! NO
            size 0 9 ! OUTSIDE
            meant 0 1 ! CAST
            asks 0 9 ! OUTSIDE
            copy 0 0 9 0 1 ! UNKNOWN
            ofFloat 0 f:-1 ! OUTSIDE
            ofDouble 0 d:1e9 ! NO
            add 0 -1 ! OUTSIDE
            less 2 1 ! UNKNOWN
            times 0 -1 ! OUTSIDE
            divide 0 1 0 ! ZERO
            divide 0 0 1 ! NO
            root 0 0 ! NO
            cube 0 2 ! UNKNOWN
            turn 1 1 ! NO
            part 3 0 ! LOST BEYOND
            tally 0 5 ! BEYOND
            step 8 0 ! UNKNOWN
            stuck 3 ! OUTSIDE
            exercise 3 1 ! OUTSIDE
            place 0 12 ! OUTSIDE
            fillings 1 ! UNKNOWN
            answer 0 -1 ! OUTSIDE
            told 7 ! OUTSIDE
            undo = 7
            """);
    }

    private static void framesAndKinds(Edges e) {
        e.sentence("Terms 1", "FRAMES are numbered from 0 on, 30 ever.", """
            told 0 = 0
            size 0 0 ! UNKNOWN
            frame 0 1 = 0
            frame 3 1 = 1
            size 2 0 ! UNKNOWN
            27 x frame 0 0
            both 0 2 = 29
            told 0 = 30
            size 29 1 = 4
            frame 0 1 ! FULL
            both 0 3 ! FULL
            size 30 0 ! UNKNOWN
            told 0 = 30
            """);
        e.sentence("Terms 1", "KINDS: 0 FIVE, 1 SEVEN (a FIVE, too), 2 TEN, 3 SIXTEEN (a SEVEN, and so a FIVE, too), 4 DOUBLE.", """
            frame 0 1 = 0
            frame 1 1 = 1
            frame 2 1 = 2
            frame 3 1 = 3
            both 0 1 = 4
            size 0 1 = 0
            size 1 1 = 1
            size 2 1 = 2
            size 3 1 = 3
            size 4 1 = 4
            meant 1 0 = 1
            meant 3 1 = 1
            meant 3 0 = 1
            meant 0 1 ! CAST
            meant 1 3 ! CAST
            meant 2 0 ! CAST
            meant 4 0 ! CAST
            """);
        e.sentence("Terms 1", "BASE: 16 of SIXTEEN, of a DOUBLE that of its parts, 10 of others.", """
            frame 0 1 = 0
            frame 1 1 = 1
            frame 2 1 = 2
            frame 3 1 = 3
            frame 3 0 = 4
            both 2 1 = 5
            both 3 4 = 6
            frame 3 1 = 7
            both 7 6 = 8
            size 0 2 = 10
            size 1 2 = 10
            size 2 2 = 10
            size 3 2 = 16
            size 5 2 = 10
            size 6 2 = 16
            size 8 2 = 16
            """);
    }

    private static void rods(Edges e) {
        e.sentence("Terms 1", "All but DOUBLES have RODS 0, 1, .. (0 the lowest), 18 at most (SIXTEEN: 14).", """
            frame 0 18 = 0
            frame 1 18 = 1
            frame 2 18 = 2
            frame 3 14 = 3
            frame 0 19 ! OUTSIDE
            frame 1 19 ! OUTSIDE
            frame 2 19 ! OUTSIDE
            frame 3 15 ! OUTSIDE
            frame 0 0 = 4
            digit 0 0 = 0
            digit 0 17 = 0
            digit 0 18 ! BEYOND
            digit 3 13 = 0
            digit 3 14 ! BEYOND
            digit 4 0 ! BEYOND
            push 0 0 0 1 = 1
            shows 0 = 1
            """);
        e.sentence("Terms 1", "A ROD is missing, or a row of how many beads are pushed: LOWER, UPPER (at first both, 0; TEN: LOWER alone).", """
            frame 0 1 = 0
            frame 1 1 = 1
            frame 2 1 = 2
            frame 3 1 = 3
            beads? 0 = 0 0
            beads? 1 = 0 0
            beads? 2 = 0 BEYOND
            beads? 3 = 0 0
            rod 0 0 -1 = 1
            beads? 0 = NULL NULL
            """);
        e.sentence("Terms 1", "So many at most: FIVE 4 and 1, SEVEN, SIXTEEN 5 and 2, TEN 10.", """
            frame 0 1 = 0
            push 0 0 0 4 = 4
            push 0 0 0 1 ! NO
            push 0 0 1 1 = 1
            push 0 0 1 1 ! NO
            """, """
            frame 1 1 = 0
            push 0 0 0 5 = 5
            push 0 0 0 1 ! NO
            push 0 0 1 2 = 2
            push 0 0 1 1 ! NO
            """, """
            frame 2 1 = 0
            push 0 0 0 10 = 10
            push 0 0 0 1 ! NO
            push 0 0 1 1 ! BEYOND
            """, """
            frame 3 1 = 0
            push 0 0 0 5 = 5
            push 0 0 0 1 ! NO
            push 0 0 1 2 = 2
            push 0 0 1 1 ! NO
            """);
        e.sentence("Terms 1", "Its DIGIT is LOWER and 5 times UPPER (TEN: LOWER).", """
            frame 1 1 = 0
            frame 2 1 = 1
            digit 0 0 = 0
            push 0 0 0 5 = 5
            digit 0 0 = 5
            push 0 0 1 2 = 2
            digit 0 0 = 15
            push 0 0 0 -5 = 0
            digit 0 0 = 10
            push 1 0 0 10 = 10
            digit 1 0 = 10
            """);
        e.sentence("Terms 1", "To read one: BEYOND: there is no such ROD; NULL: it is missing; BEYOND: it has no such number (LOWER is read first).", """
            frame 0 4 = 0
            frame 2 1 = 1
            rod 0 1 -1 = 1
            rod 0 2 1 = 1
            rod 0 3 0 = 1
            digit 0 -1 ! BEYOND
            digit 0 0 = 0
            digit 0 1 ! NULL
            digit 0 2 ! BEYOND
            digit 0 3 ! BEYOND
            digit 0 4 ! BEYOND
            digit 0 MIN ! BEYOND
            digit 0 MAX ! BEYOND
            digit 1 0 = 0
            rod 1 0 0 = 1
            digit 1 0 ! BEYOND
            rod 1 0 -1 = 1
            digit 1 0 ! NULL
            """);
    }

    private static void doubles(Edges e) {
        e.sentence("Terms 1", "A DOUBLE has two parts, FRAMES of one BASE without a FRAME in common, with 18 (14) RODS together at most", """
            frame 0 9 = 0
            frame 2 9 = 1
            frame 1 10 = 2
            frame 3 7 = 3
            frame 3 7 = 4
            frame 3 8 = 5
            both 0 2 ! NO
            both 2 0 ! NO
            both 3 5 ! NO
            both 5 3 ! NO
            both 0 3 ! NO
            both 3 0 ! NO
            both 0 0 ! NO
            both 0 1 = 6
            both 3 4 = 7
            size 6 0 = 18
            size 7 0 = 14
            """, """
            frame 0 0 = 0
            frame 2 0 = 1
            frame 0 18 = 2
            both 0 1 = 3
            size 3 0 = 0
            shows 3 = 0
            both 3 2 = 4
            size 4 0 = 18
            """);
        e.sentence("Terms 1", "its RODS are those of its second part, then those of its first one", """
            frame 0 1 = 0
            frame 2 2 = 1
            both 0 1 = 2
            set 2 789 = 1
            beads? 2 = 9 BEYOND 8 BEYOND 2 1 BEYOND
            shows 0 = 7
            shows 1 = 89
            """, """
            frame 0 0 = 0
            frame 0 1 = 1
            both 0 1 = 2
            both 1 0 = 3
            push 2 0 0 1 = 1
            digit 1 0 = 1
            push 2 1 0 1 ! BEYOND
            """);
        e.sentence("Terms 1", "(the same RODS: what changes here changes there)", """
            frame 1 1 = 0
            frame 2 1 = 1
            both 0 1 = 2
            frame 0 1 = 3
            both 3 2 = 4
            push 4 1 0 4 = 4
            digit 0 0 = 4
            digit 2 1 = 4
            rod 1 0 -1 = 1
            digit 4 0 ! NULL
            digit 2 0 ! NULL
            rod 1 0 1 = 1
            add 4 10 = 1
            digit 0 0 = 5
            copy 0 0 3 0 1 = 1
            digit 4 2 = 5
            undo ! NO
            set 2 31 = 1
            shows 4 = 531
            shows 1 = 1
            """);
        e.sentence("Terms 1", "it has the FRAMES that its parts have, and these, and itself.", """
            frame 0 1 = 0
            frame 0 1 = 1
            frame 0 1 = 2
            frame 0 1 = 3
            both 0 1 = 4
            both 4 2 = 5
            both 5 3 = 6
            both 6 0 ! NO
            both 1 6 ! NO
            both 6 2 ! NO
            both 4 6 ! NO
            both 6 5 ! NO
            both 6 6 ! NO
            both 3 4 = 7
            both 7 6 ! NO
            both 7 2 = 8
            """);
        e.sentence("Terms 1", "It is DEEP: 1 and the greater one of its parts' (others: 0), 5 at most.", """
            frame 0 1 = 0
            frame 0 1 = 1
            frame 0 1 = 2
            frame 0 1 = 3
            frame 0 1 = 4
            frame 0 1 = 5
            frame 0 1 = 6
            size 0 4 = 0
            both 0 1 = 7
            size 7 4 = 1
            both 2 7 = 8
            size 8 4 = 2
            both 8 3 = 9
            size 9 4 = 3
            both 9 4 = 10
            size 10 4 = 4
            both 5 10 = 11
            size 11 4 = 5
            both 11 6 ! NO
            both 6 11 ! NO
            frame 0 1 = 12
            both 6 12 = 13
            both 13 10 = 14
            size 14 4 = 5
            """);
    }

    private static void written(Edges e) {
        e.sentence("Terms 1", "WRITTEN a DIGIT d (0 to BASE - 1) is UPPER d / 5, 2 at most, LOWER the rest (TEN: LOWER d).", """
            frame 0 5 = 0
            set 0 95410 = 1
            beads? 0 = 0 0 1 0 4 0 0 1 4 1
            frame 1 5 = 1
            set 1 95410 = 1
            beads? 1 = 0 0 1 0 4 0 0 1 4 1
            frame 2 3 = 2
            set 2 950 = 1
            beads? 2 = 0 BEYOND 5 BEYOND 9
            frame 3 7 = 3
            set 3 0xfea9540 = 1
            beads? 3 = 0 0 4 0 0 1 4 1 0 2 4 2 5 2
            """);
        e.sentence("Terms 1", "A ROD is PROPER if its numbers are those of a DIGIT as WRITTEN.", everyRod(0, 4, 1), everyRod(1, 5, 2),
                everyRod(2, 10, 0), everyRod(3, 5, 2));
        e.sentence("Terms 1", "A FRAME SHOWS the sum of its DIGITS, each times BASE to the power of its ROD's number; RODS are read from 0 on, all.", """
            frame 0 0 = 0
            shows 0 = 0
            frame 0 18 = 1
            set 1 999999999999999999 = 1
            shows 1 = 999999999999999999
            frame 3 14 = 2
            set 2 0xffffffffffffff = 1
            shows 2 = 0xffffffffffffff
            frame 2 18 = 3
            push 3 17 0 10 = 10
            shows 3 = 1000000000000000000
            frame 1 3 = 4
            push 4 0 1 2 = 2
            push 4 0 0 5 = 5
            push 4 2 0 1 = 1
            shows 4 = 115
            rod 4 2 -1 = 1
            rod 4 1 1 = 1
            shows 4 ! LOST BEYOND
            rod 4 0 -1 = 1
            shows 4 ! LOST NULL
            rod 4 0 2 = 1
            rod 4 1 2 = 1
            shows 4 ! LOST NULL
            """, """
            frame 1 18 = 0
            push 0 0 0 5
            push 0 0 1 2
            copy 0 0 0 1 1
            copy 0 0 0 2 2
            copy 0 0 0 4 4
            copy 0 0 0 8 8
            copy 0 0 0 16 2
            shows 0 = 1666666666666666665
            """);
    }

    /** Every pair of numbers that a kind's ROD may have, and whether it is PROPER. */
    private static String everyRod(int kind, int lowers, int uppers) {
        StringBuilder run = new StringBuilder("frame " + kind + " 1 = 0\n");
        for (int upper = 0; upper <= uppers; upper++) {
            for (int lower = 0; lower <= lowers; lower++) {
                int digit = lower + 5 * upper;
                boolean proper = kind == 2 ? lower < 10 : kind == 3 ? lower < 5 || upper == 2 : lower < 5 && digit < 10;
                run.append("rod 0 0 ").append(kind == 2 ? 1 : 2).append(" = 1\n");
                run.append("push 0 0 0 ").append(lower).append(" = ").append(lower).append('\n');
                if (kind != 2) {
                    run.append("push 0 0 1 ").append(upper).append(" = ").append(upper).append('\n');
                }
                run.append("proper 0 ! ").append(proper ? 1 : 0).append('\n');
                run.append("add 0 0 = ").append(proper ? "0" : "NO").append('\n');
            }
        }
        return run.toString();
    }

    private static void asks(Edges e) {
        e.sentence("Terms 3", "ASKS are asked of FRAMES, each by a body with a number that is TRACED as it begins "
                + "(TRACE, an int that wraps, 0 at first, becomes 31 times it and the number):", """
            frame 0 1 = 0
            trace = 0
            asks 0 0 = 10
            trace = 1
            asks 0 0 = 10
            trace = 32
            5 x asks 0 0
            trace = 917087137
            asks 0 0 = 10
            trace = -1635069824
            """);
        e.sentence("Terms 3", "0 BASE, of what SHOWS (all): the lent body (1): 10. SIXTEEN's own (2): 16. DOUBLE's own (3): BASE of its first part.",
                asked(0, 0, "10", 1), asked(1, 0, "10", 1), asked(2, 0, "10", 1), asked(3, 0, "16", 2), """
            frame 2 1 = 0
            frame 1 1 = 1
            frame 0 1 = 2
            both 0 1 = 3
            both 3 2 = 4
            asks 4 0 = 10
            trace = 2977
            """, """
            frame 3 1 = 0
            frame 3 1 = 1
            both 0 1 = 2
            asks 2 0 = 16
            trace = 95
            """, deepest(true, "asks 10 0 = 10", 3, 3, 3, 3, 3, 1), deepest(false, "asks 10 0 = 10", 3, 1));
        e.sentence("Terms 3", "1 BEADS, of what SLIDES (FIVE, TEN): FIVE's own (4): 5. SEVEN's own (5): FIVE's, and 2. TEN's own (6): 10.",
                asked(0, 1, "5", 4), asked(1, 1, "7", 5, 4), asked(2, 1, "10", 6), asked(3, 1, "7", 5, 4));
        e.sentence("Terms 3", "2 CARRY, of what CARRIES (FIVE, DOUBLE): the lent body (7): BASE less 1. SEVEN's own (8): 5 and BEADS. "
                + "DOUBLE's own (9): CARRY of its first part, then of its second one, together.",
                asked(0, 2, "9", 7, 1), asked(1, 2, "12", 8, 5, 4), asked(3, 2, "12", 8, 5, 4), """
            frame 0 1 = 0
            frame 1 1 = 1
            frame 0 1 = 2
            both 0 1 = 3
            both 3 2 = 4
            asks 4 2 = 30
            """ + "trace = " + traced(9, 9, 7, 1, 8, 5, 4, 7, 1),
                deepest(true, "asks 10 2 = 54", 9, 9, 9, 9, 9, 7, 1, 7, 1, 7, 1, 7, 1, 7, 1, 7, 1),
                deepest(false, "asks 10 2 = 54", 9, 7, 1, 9, 7, 1, 9, 7, 1, 9, 7, 1, 9, 7, 1, 7, 1));
        e.sentence("Terms 3", "3 JUDGE, of what JUDGES (FIVE): FIVE's own (10): how many RODS. SEVEN's own (11): twice FIVE's. SIXTEEN's own (12): SEVEN's, and 1.",
                asked(0, 3, "3", 10), asked(1, 3, "6", 11, 10), asked(3, 3, "7", 12, 11, 10), """
            frame 0 0 = 0
            frame 1 0 = 1
            frame 3 0 = 2
            asks 0 3 = 0
            asks 1 3 = 0
            asks 2 3 = 1
            frame 0 18 = 3
            frame 1 18 = 4
            frame 3 14 = 5
            asks 3 3 = 18
            asks 4 3 = 36
            asks 5 3 = 29
            """);
        e.sentence("Terms 3", "What is asked of something that has it not: CAST (of a part, too).", """
            frame 2 1 = 0
            frame 0 1 = 1
            frame 0 1 = 2
            both 1 2 = 3
            asks 0 2 ! CAST
            asks 0 3 ! CAST
            asks 3 1 ! CAST
            asks 3 3 ! CAST
            trace = 0
            """, """
            frame 2 1 = 0
            frame 0 1 = 1
            both 0 1 = 2
            asks 2 2 = CAST
            fault = 3
            trace = 9
            """, """
            frame 2 1 = 0
            frame 0 1 = 1
            both 1 0 = 2
            asks 2 2 = CAST
            """ + "trace = " + traced(9, 7, 1));
    }

    /** FRAME 10 is five DEEP, each DOUBLE being the next one's first part, or its second one. */
    private static String deepest(boolean first, String asked, int... bodies) {
        StringBuilder run = new StringBuilder("6 x frame 0 1\n");
        for (int n = 1; n <= 5; n++) {
            int inner = n == 1 ? 0 : n + 4;
            run.append("both " + (first ? inner + " " + n : n + " " + inner) + " = " + (n + 5) + "\n");
        }
        return run + "size 10 4 = 5\n" + asked + "\ntrace = " + traced(bodies) + "\n";
    }

    private static String asked(int kind, int ask, String said, int... bodies) {
        return "frame " + kind + " 3 = 0\nasks 0 " + ask + " = " + said + "\ntrace = " + traced(bodies);
    }

    private static int traced(int... bodies) {
        int t = 0;
        for (int b : bodies) {
            t = 31 * t + b;
        }
        return t;
    }
}
