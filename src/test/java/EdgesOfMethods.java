/** Promises 22 to 34: methods, their steps, and what is told of them. */
final class EdgesOfMethods {
    private static final String FIVE_FRAMES = EdgesOfFrames.FIVE_FRAMES;

    private EdgesOfMethods() {
    }

    static void all(Edges e) {
        sums(e);
        times(e);
        divide(e);
        roots(e);
        turn(e);
        part(e);
        tally(e);
        steps(e);
        stuck(e);
        undo(e);
    }

    private static String unknown(String call) {
        return EdgesOfFrames.unknown(call);
    }

    private static void sums(Edges e) {
        e.sentence("Promise 22", "SUM.", FIVE_FRAMES + """
            add 0 0 = 0
            add 0 999 = 3
            shows 0 = 999
            add 0 1 = -103
            shows 0 = 999
            add 4 0 = 0
            add 4 1000 = -103
            stuck 1 = 6
            add 3 0xfff = 3
            add 3 1 = -103
            add 2 1000 = -100
            rod 2 0 -1 = 1
            add 2 10 = 1
            """);
        e.sentence("Promise 22", "UNKNOWN", unknown("add ? 0 ! UNKNOWN"), unknown("add ? -1 ! UNKNOWN"));
        e.sentence("Promise 22", "OUTSIDE: v below 0", FIVE_FRAMES + """
            add 0 1 = 1
            add 0 -1 ! OUTSIDE
            add 0 LMIN ! OUTSIDE
            push 1 0 0 5 = 5
            add 1 -1 ! OUTSIDE
            """);
        e.sentence("Promise 22", "NO.", FIVE_FRAMES + """
            push 1 0 0 5 = 5
            add 1 1 ! NO
            add 1 0 ! NO
            push 2 1 0 10 = 10
            add 4 1 ! NO
            """);
        e.sentence("Promise 23", "LESS.", FIVE_FRAMES + """
            less 0 0 = 0
            less 0 1 = -103
            set 0 1 = 1
            less 0 2 = -103
            shows 0 = 1
            less 0 1 = 1
            shows 0 = 0
            set 4 1000 = 1
            less 4 1 = 4
            shows 0 = 0
            shows 2 = 999
            less 3 0x1000 = -100
            rod 2 1 -1 = 1
            less 2 101 = 2
            """);
        e.sentence("Promise 23", "UNKNOWN", unknown("less ? 0 ! UNKNOWN"), unknown("less ? -1 ! UNKNOWN"));
        e.sentence("Promise 23", "OUTSIDE: v below 0", FIVE_FRAMES + """
            add 0 1 = 1
            less 0 -1 ! OUTSIDE
            less 0 LMIN ! OUTSIDE
            push 1 0 0 5 = 5
            less 1 -1 ! OUTSIDE
            """);
        e.sentence("Promise 23", "NO.", FIVE_FRAMES + """
            push 1 0 0 5 = 5
            less 1 1 ! NO
            less 1 0 ! NO
            push 2 1 0 10 = 10
            less 4 1 ! NO
            """);
    }

    private static void times(Edges e) {
        e.sentence("Promise 24", "TIMES.", FIVE_FRAMES + """
            times 0 0 = 0
            times 0 LMAX = 0
            set 0 333 = 1
            times 0 3 = 6
            shows 0 = 999
            times 0 2 = -103
            shows 0 = 999
            times 0 1 = 6
            times 0 0 = 3
            shows 0 = 0
            set 4 999 = 1
            times 4 1000 = 6
            shows 0 = 999
            shows 2 = 0
            """);
        e.sentence("Promise 24", "UNKNOWN", unknown("times ? 0 ! UNKNOWN"), unknown("times ? -1 ! UNKNOWN"));
        e.sentence("Promise 24", "OUTSIDE: v below 0", FIVE_FRAMES + """
            times 0 -1 ! OUTSIDE
            times 0 LMIN ! OUTSIDE
            push 1 0 0 5 = 5
            rod 1 1 -1 = 1
            times 1 -1 ! OUTSIDE
            """);
        e.sentence("Promise 24", "NO", FIVE_FRAMES + """
            push 1 1 0 5 = 5
            times 1 1 ! NO
            rod 1 0 -1 = 1
            times 1 0 ! NO
            """);
        e.sentence("Promise 24", "FAULTS.", FIVE_FRAMES + """
            rod 0 2 -1 = 1
            times 0 0 ! NULL
            times 4 1 ! NULL
            rod 0 1 1 = 1
            times 0 1 ! BEYOND
            rod 2 0 0 = 1
            times 4 1 ! BEYOND
            part 0 0 ! LOST NULL
            """);
    }

    private static void divide(Edges e) {
        e.sentence("Promise 25", "DIVIDE: the quotient to g.", FIVE_FRAMES + """
            set 0 999 = 1
            divide 0 1 1
            shows 1 = 999
            shows 0 = 0
            divide 0 1 1 = 3
            shows 1 = 0
            set 1 999 = 1
            divide 1 0 1000 = 0
            divide 1 0 999
            shows 0 = 1
            set 4 998 = 1
            divide 4 1 999
            shows 1 = 0
            shows 4 = 998
            set 1 123 = 1
            divide 1 4 2
            shows 4 = 61
            shows 1 = 1
            """);
        e.sentence("Promise 25", "UNKNOWN", unknown("divide ? 0 1 ! UNKNOWN"), unknown("divide 0 ? 1 ! UNKNOWN"), unknown("divide ? ? -1 ! UNKNOWN"));
        e.sentence("Promise 25", "OUTSIDE: v below 0", FIVE_FRAMES + """
            divide 0 1 -1 ! OUTSIDE
            divide 0 1 LMIN ! OUTSIDE
            divide 0 0 -1 ! OUTSIDE
            divide 0 3 -1 ! OUTSIDE
            rod 0 0 -1 = 1
            divide 0 1 -1 ! OUTSIDE
            """);
        e.sentence("Promise 25", "NO", FIVE_FRAMES + """
            divide 0 0 0 ! NO
            divide 0 3 1 ! NO
            divide 4 2 1 ! NO
            divide 2 4 1 ! NO
            push 1 0 0 5 = 5
            divide 0 1 0 ! NO
            rod 0 0 -1 = 1
            divide 0 1 0 ! NO
            divide 1 0 1 ! NO
            """);
        e.sentence("Promise 25", "FAULTS (of f, then ZERO).", FIVE_FRAMES + """
            set 1 7 = 1
            divide 0 1 0 ! ZERO
            rod 0 2 -1 = 1
            divide 0 1 0 ! NULL
            divide 0 1 1 ! NULL
            rod 0 1 1 = 1
            divide 0 1 0 ! BEYOND
            divide 1 0 0 ! ZERO
            divide 1 0 1 = -100
            stuck 1 = 2
            """);
    }

    private static void roots(Edges e) {
        e.sentence("Promise 26", "ROOT: to g.", FIVE_FRAMES + """
            root 0 1 = 0
            set 0 961 = 1
            root 0 1
            shows 1 = 31
            shows 0 = 0
            set 0 960 = 1
            root 0 1
            shows 1 = 30
            shows 0 = 60
            set 4 2 = 1
            root 4 1 = 3
            shows 1 = 1
            set 1 100 = 1
            root 1 4
            shows 4 = 10
            """);
        e.sentence("Promise 26", "UNKNOWN", unknown("root ? 0 ! UNKNOWN"), unknown("root 0 ? ! UNKNOWN"));
        e.sentence("Promise 26", "NO", FIVE_FRAMES + """
            root 0 0 ! NO
            root 0 3 ! NO
            root 4 0 ! NO
            root 2 4 ! NO
            push 1 0 0 5 = 5
            root 1 0 ! NO
            root 0 1 ! NO
            rod 0 0 -1 = 1
            root 0 1 ! NO
            """);
        e.sentence("Promise 26", "FAULTS.", FIVE_FRAMES + """
            rod 0 2 -1 = 1
            root 0 1 ! NULL
            rod 0 1 0 = 1
            root 0 1 ! BEYOND
            root 1 0 = -100
            stuck 0 = 1
            stuck 1 = 2
            """);
        e.sentence("Promise 27", "CUBE.", FIVE_FRAMES + """
            cube 0 1 = 0
            set 0 729 = 1
            cube 0 1 = 4
            shows 1 = 9
            shows 0 = 0
            set 0 728 = 1
            cube 0 1 = 5
            shows 1 = 8
            set 4 1000 = 1
            cube 4 1 = 3
            shows 1 = 10
            """);
        e.sentence("Promise 27", "UNKNOWN", unknown("cube ? 0 ! UNKNOWN"), unknown("cube 0 ? ! UNKNOWN"));
        e.sentence("Promise 27", "NO", FIVE_FRAMES + """
            cube 0 0 ! NO
            cube 3 0 ! NO
            cube 4 0 ! NO
            cube 2 4 ! NO
            push 1 0 0 5 = 5
            cube 1 0 ! NO
            cube 0 1 ! NO
            rod 0 0 -1 = 1
            cube 0 1 ! NO
            """);
        e.sentence("Promise 27", "FAULTS.", FIVE_FRAMES + """
            rod 0 2 -1 = 1
            cube 0 1 ! NULL
            rod 0 1 1 = 1
            cube 0 1 ! BEYOND
            cube 1 0 = -100
            stuck 0 = 1
            """);
    }

    private static void turn(Edges e) {
        e.sentence("Promise 28", "TURN: X to g.", FIVE_FRAMES + """
            turn 0 3 = 0
            set 0 999 = 1
            turn 0 3
            shows 3 = 999
            shows 0 = 999
            set 3 0x3e7 = 1
            turn 3 1
            shows 1 = 999
            set 3 0x3e8 = 1
            set 1 5 = 1
            turn 3 1 = -120
            stuck 1 = 3
            stuck 2 = 1
            shows 1 = 5
            turn 3 4
            shows 4 = 1000
            turn 4 1 = -107
            """);
        e.sentence("Promise 28", "UNKNOWN", unknown("turn ? 0 ! UNKNOWN"), unknown("turn 0 ? ! UNKNOWN"));
        e.sentence("Promise 28", "NO", FIVE_FRAMES + """
            turn 0 0 ! NO
            turn 4 0 ! NO
            turn 2 4 ! NO
            push 1 0 0 5 = 5
            turn 1 0 ! NO
            turn 3 1 ! NO
            rod 0 0 -1 = 1
            turn 0 1 ! NO
            turn 3 2 = 0
            """);
        e.sentence("Promise 28", "FAULTS.", FIVE_FRAMES + """
            rod 3 2 -1 = 1
            turn 3 1 ! NULL
            rod 3 1 0 = 1
            turn 3 1 ! BEYOND
            turn 1 3 = -100
            stuck 0 = 1
            stuck 1 = 2
            stuck 2 = 3
            """);
    }

    private static void part(Edges e) {
        e.sentence("Promise 29", "THE PART of DIGIT i of X and DIGIT j of v (0 the lowest) of the latest TIMES", """
            frame 0 5 = 0
            set 0 304 = 1
            times 0 50 = 5
            part 0 0 ! 0
            part 0 1 ! 20
            part 2 0 ! 0
            part 2 1 ! 15
            add 0 1 = 1
            part 0 1 ! 20
            times 0 -1 ! OUTSIDE
            part 2 1 ! 15
            times 0 0 = 4
            part 0 0 ! LOST BEYOND
            """);
        e.sentence("Promise 29", "(also in TURN, whose first one has an X of no DIGITS, also of a STUCK one: of those that were not come to 0).", """
            frame 3 1 = 0
            frame 0 2 = 1
            set 0 15 = 1
            turn 0 1 = 2
            part 0 0 ! LOST BEYOND
            frame 3 2 = 2
            frame 0 3 = 3
            set 2 0x2f = 1
            turn 2 3
            part 0 0 ! 12
            part 0 1 ! 2
            part 0 2 ! LOST BEYOND
            part 1 0 ! LOST BEYOND
            """, """
            frame 0 2 = 0
            set 0 63 = 1
            times 0 34 = -102
            part 1 1 ! 18
            part 1 0 ! 0
            part 0 1 ! 0
            part 0 0 ! 0
            set 0 13 = 1
            times 0 8 = -104
            part 1 0 ! 8
            part 0 0 ! 24
            part 0 1 ! LOST BEYOND
            """, """
            frame 3 2 = 0
            frame 0 1 = 1
            set 0 0x10 = 1
            turn 0 1 = -102
            part 0 1 ! 1
            part 0 0 ! 0
            set 0 0 = 1
            turn 0 1 = 0
            part 0 1 ! 1
            """);
        e.sentence("Promise 29", "FAULTS 1: there was none; 2; 1: DIGIT i is 0; 2.", """
            part 0 0 ! LOST NULL
            part -1 9 ! LOST NULL
            frame 0 4 = 0
            add 0 101 = 2
            part 0 0 ! LOST NULL
            times 0 12
            part -1 0 ! LOST BEYOND
            part 3 0 ! LOST BEYOND
            part MIN 0 ! LOST BEYOND
            part MAX 0 ! LOST BEYOND
            part 1 0 ! LOST NULL
            part 1 -1 ! LOST NULL
            part 1 2 ! LOST NULL
            part 0 -1 ! LOST BEYOND
            part 0 2 ! LOST BEYOND
            part 2 MIN ! LOST BEYOND
            part 2 MAX ! LOST BEYOND
            part 2 1 ! 1
            part 0 0 ! 2
            """);
    }

    private static void tally(Edges e) {
        e.sentence("Promise 30", "How many STEPS of a REASON (1 to 4) ROD i of f had in the latest METHOD (that was not refused; behind TURN f's RODS had none).", """
            frame 0 3 = 0
            frame 2 3 = 1
            set 0 95 = 1
            add 0 18 = 4
            tally 0 1 ! 0
            tally 0 2 ! 0
            tally 0 3 ! 0
            tally 0 4 ! 1
            tally 1 3 ! 1
            tally 1 1 ! 1
            tally 1 2 ! 0
            tally 1 4 ! 0
            tally 2 1 ! 1
            add 0 -1 ! OUTSIDE
            divide 0 1 0 ! ZERO
            times 9 9 ! UNKNOWN
            tally 0 4 ! 1
            undo = 3
            tally 1 1 ! 1
            turn 0 1
            tally 0 1 ! NULL
            tally 1 1 ! NULL
            tally 3 1 ! BEYOND
            """, """
            frame 0 2 = 0
            frame 0 1 = 1
            set 0 18 = 1
            divide 0 1 9 = 3
            tally 0 1 ! 1
            tally 1 1 ! 1
            """, """
            frame 0 1 = 0
            frame 2 1 = 1
            both 0 1 = 2
            set 2 99 = 1
            add 2 1 = -102
            tally 0 3 ! 1
            tally 1 3 ! 1
            tally 1 1 ! 0
            """);
        e.sentence("Promise 30", "FAULTS 1: there was none; 2; 1: it had no STEP; 2.", """
            tally 0 1 ! NULL
            tally -1 9 ! NULL
            frame 0 2 = 0
            add 0 -1 ! OUTSIDE
            tally 0 1 ! NULL
            add 0 1 = 1
            tally -1 1 ! BEYOND
            tally 2 1 ! BEYOND
            tally MIN 1 ! BEYOND
            tally MAX 0 ! BEYOND
            tally 1 1 ! NULL
            tally 1 0 ! NULL
            tally 1 5 ! NULL
            tally 0 0 ! BEYOND
            tally 0 5 ! BEYOND
            tally 0 MIN ! BEYOND
            tally 0 MAX ! BEYOND
            tally 0 1 ! 1
            tally 0 4 ! 0
            add 0 0 = 0
            tally 0 1 ! NULL
            frame 0 0 = 1
            add 1 0 = 0
            tally 0 1 ! BEYOND
            """);
    }

    private static void steps(Edges e) {
        e.sentence("Promise 31", "How many STEPS the latest METHOD has; 0 before.", """
            steps ! 0
            frame 0 2 = 0
            steps ! 0
            add 0 99 = 2
            steps ! 2
            undo = 1
            steps ! 2
            undo = 0
            steps ! 2
            add 0 -1 ! OUTSIDE
            steps ! 2
            times 0 3 = 0
            steps ! 0
            set 0 99 = 1
            add 0 1 = -102
            steps ! 2
            """);
        e.sentence("Promise 32", "Of STEP k: 0 its FRAME (f, g, also where the ROD is a part's), 1 ROD, 2 UPPER more, 3 LOWER more (below 0: less), "
                + "4 REASON, 5 IN HAND behind it, 6 what was ADDED (TAKEN: below 0).", """
            frame 0 1 = 0
            frame 2 1 = 1
            both 0 1 = 2
            frame 0 1 = 3
            set 2 49 = 1
            add 2 1 = 2
            row 0 = 2 0 0 -9 3 1 1
            row 1 = 2 1 1 -4 2 0 1
            less 2 1 = 2
            row 0 = 2 0 0 9 3 -1 -1
            row 1 = 2 1 -1 4 2 0 -1
            set 2 6 = 1
            divide 2 3 3 = 2
            row 0 = 3 0 0 2 1 0 2
            row 1 = 2 0 0 -6 1 0 -6
            """);
        e.sentence("Promise 32", "UNKNOWN: no such STEP", """
            step 0 0 ! UNKNOWN
            step -1 0 ! UNKNOWN
            frame 0 2 = 0
            add 0 12 = 2
            step -1 0 ! UNKNOWN
            step 2 0 ! UNKNOWN
            step 2 7 ! UNKNOWN
            step MIN 0 ! UNKNOWN
            step MAX 0 ! UNKNOWN
            step 1 6 ! 2
            undo = 1
            step 1 6 ! 2
            add 0 0 = 0
            step 0 0 ! UNKNOWN
            """);
        e.sentence("Promise 32", "OUTSIDE.", """
            frame 0 2 = 0
            add 0 12 = 2
            step 0 -1 ! OUTSIDE
            step 0 7 ! OUTSIDE
            step 1 7 ! OUTSIDE
            step 0 MIN ! OUTSIDE
            step 0 MAX ! OUTSIDE
            """);
    }

    private static void stuck(Edges e) {
        e.sentence("Promise 33", "Of the latest METHOD: 0 by what it was STUCK (0: it was not), 1 at which ROD, 2 of which FRAME (NONE both: it was not).", """
            frame 0 1 = 0
            frame 0 1 = 1
            both 0 1 = 2
            stuck 0 ! 0
            stuck 1 ! NONE
            stuck 2 ! NONE
            add 1 10 = -100
            stuck 0 ! 2
            stuck 1 ! 1
            stuck 2 ! 1
            rod 0 0 -1 = 1
            add 2 10 = -100
            stuck 0 ! 1
            stuck 1 ! 1
            stuck 2 ! 2
            add 2 -1 ! OUTSIDE
            stuck 0 ! 1
            add 2 1 = 1
            stuck 0 ! 0
            stuck 1 ! NONE
            stuck 2 ! NONE
            divide 1 0 1 = -100
            stuck 0 ! 1
            stuck 1 ! 0
            stuck 2 ! 0
            """);
        e.sentence("Promise 33", "OUTSIDE.", """
            stuck -1 ! OUTSIDE
            stuck 3 ! OUTSIDE
            stuck MIN ! OUTSIDE
            stuck MAX ! OUTSIDE
            frame 0 0 = 0
            add 0 1 = -100
            stuck -1 ! OUTSIDE
            stuck 3 ! OUTSIDE
            """);
    }

    private static void undo(Edges e) {
        e.sentence("Promise 34", "The last STEP of the latest METHOD that STANDS is taken back, and STANDS no more: how many do.", """
            frame 0 3 = 0
            frame 2 2 = 1
            set 0 100 = 1
            set 1 70 = 1
            divide 0 1 99 = 6
            undo = 5
            undo = 4
            undo = 3
            undo = 2
            shows 0 = 100
            shows 1 = 1
            undo = 1
            shows 1 = 0
            undo = 0
            shows 1 = 70
            undo ! NO
            """, """
            frame 0 1 = 0
            frame 1 1 = 1
            both 0 1 = 2
            set 2 49 = 1
            add 2 1 = 2
            undo = 1
            shows 2 = 40
            undo = 0
            beads? 2 = 4 1 4 0
            frame 0 0 = 3
            add 2 1 = 2
            add 9 9 ! UNKNOWN
            divide 0 3 0 ! ZERO
            undo = 1
            """);
        e.sentence("Promise 34", "NO: none does", """
            undo ! NO
            frame 0 1 = 0
            undo ! NO
            add 0 0 = 0
            undo ! NO
            add 0 1 = 1
            undo = 0
            undo ! NO
            set 0 9 = 1
            add 0 1 = -101
            undo ! NO
            shows 0 = 9
            """);
        e.sentence("Promise 34", "or rod(), push(), set(), ofFloat(), ofDouble(), copy() was answered since without a refusal, a FAULT (but copy()'s 2).",
                barred("rod 1 0 2 = 1"), barred("rod 1 0 -1 = 1"), barred("push 1 0 0 0 = 0"), barred("push 1 0 0 1 = 1"), barred("set 1 0 = 1"),
                barred("ofFloat 1 f:0.5 = 1"), barred("ofDouble 1 d:-0.0 = 1"), barred("copy 1 0 1 0 0 = 0"), barred("copy 1 0 0 0 -1 = 0"),
                barred("copy 1 0 0 0 2 = 2"), barred("copy 1 2 0 0 1 = BEYOND"), barred("copy 1 0 1 1 2 = BEYOND"), barred("copy 1 0 1 0 -1 = BEYOND"),
                free("rod 1 0 3 = OUTSIDE"), free("rod 9 0 1 = UNKNOWN"), free("rod 1 2 1 = BEYOND"), free("rod 2 0 1 = CAST"),
                free("push 1 0 0 9 = NO"), free("push 1 2 0 0 = BEYOND"), free("push 9 0 0 0 = UNKNOWN"), free("push 1 0 2 0 = OUTSIDE"),
                free("set 1 -1 = OUTSIDE"), free("set 1 100 = NO"), free("set 9 1 = UNKNOWN"), free("set 3 0 = NULL"),
                free("ofFloat 1 f:-1 = OUTSIDE"), free("ofFloat 1 f:100 = NO"), free("ofFloat 9 0 = UNKNOWN"), free("ofFloat 3 0 = NULL"),
                free("ofDouble 1 d:NaN = OUTSIDE"), free("ofDouble 1 d:100 = NO"), free("ofDouble 9 0 = UNKNOWN"), free("ofDouble 3 0 = NULL"),
                free("copy 9 0 0 0 1 = UNKNOWN"), free("copy 2 0 0 0 1 = CAST"), free("copy 1 0 4 0 1 = NO"),
                free("frame 0 1 = 5"), free("both 0 4 = 5"), free("shows 0 = 12"), free("asks 0 2 = 9"), free("pupil 1 1 1 1 = 1"),
                free("exercise 0 1 = 0"), free("add 0 -1 = OUTSIDE"), free("divide 0 4 0 = ZERO"), free("restFloat 0 0 = 2143289344"));
    }

    /** Two STEPS that STAND; FRAME 2 is a DOUBLE, 3 has a missing ROD, 4 is a TEN. */
    private static String since(String call) {
        return """
            frame 0 2 = 0
            frame 0 2 = 1
            both 0 1 = 2
            frame 0 1 = 3
            frame 2 1 = 4
            rod 3 0 -1 = 1
            add 0 12 = 2
            """ + call + "\n";
    }

    private static String barred(String call) {
        return since(call) + "undo ! NO\nundo ! NO\nadd 0 0 = 0\nadd 1 0 = 0\nset 0 0 = 1\nadd 0 12 = 2\nundo = 1\n";
    }

    private static String free(String call) {
        return since(call) + "undo = 1\nshows 0 = 10\nundo = 0\nundo ! NO\n";
    }
}
