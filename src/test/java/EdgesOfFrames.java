/** Promises 1 to 17: a new object, and frames. */
final class EdgesOfFrames {
    /** One FRAME of each kind, 0 to 4: FIVE, SEVEN, TEN, SIXTEEN of three RODS, a DOUBLE of TEN and FIVE. */
    static final String FIVE_FRAMES = """
            frame 0 3 = 0
            frame 1 3 = 1
            frame 2 3 = 2
            frame 3 3 = 3
            both 0 2 = 4
            """;

    private EdgesOfFrames() {
    }

    /** The call with each number at ? that no FRAME has: one below the least, one above the greatest, the outermost. */
    static String unknown(String call) {
        StringBuilder run = new StringBuilder(FIVE_FRAMES);
        for (String f : new String[] {"-1", "5", "29", "30", "MIN", "MAX"}) {
            run.append(call.replace("?", f)).append('\n');
        }
        return run.toString();
    }

    static void all(Edges e) {
        newObject(e);
        frame(e);
        both(e);
        rod(e);
        push(e);
        beads(e);
        digit(e);
        shows(e);
        set(e);
        proper(e);
        size(e);
        meant(e);
        asks(e);
        copy(e);
        copyAcross(e);
        copied(e);
        digest(e);
    }

    private static void newObject(Edges e) {
        e.sentence("Promise 1", "Nothing is there.", """
            told 0 ! 0
            told 1 ! 0
            told 2 ! 0
            told 3 ! 0
            told 4 ! 0
            told 5 ! 0
            told 6 ! 0
            trace ! 0
            copied ! 0
            steps ! 0
            stuck 0 ! 0
            stuck 1 ! NONE
            stuck 2 ! NONE
            slip ! NONE
            lapse ! 0
            fault ! 0
            size 0 0 ! UNKNOWN
            fillings 0 ! UNKNOWN
            step 0 0 ! UNKNOWN
            undo ! NO
            fix ! NO
            begin ! 0
            tally 0 1 ! NULL
            part 0 0 ! LOST NULL
            frame 0 0 = 0
            exercise 0 0 = 0
            pupil 0 0 0 0 = 1
            """);
    }

    private static void frame(Edges e) {
        e.sentence("Promise 2", "A new FRAME of a kind 0 to 3: its number.", """
            frame 0 0 = 0
            frame 1 0 = 1
            frame 2 0 = 2
            frame 3 0 = 3
            both 0 1 = 4
            frame 0 1 = 5
            told 0 = 6
            size 3 1 = 3
            size 5 0 = 1
            """);
        e.sentence("Promise 2", "OUTSIDE: the kind", """
            frame 0 1 = 0
            frame -1 1 ! OUTSIDE
            frame 4 1 ! OUTSIDE
            frame 5 1 ! OUTSIDE
            frame MIN 1 ! OUTSIDE
            frame MAX 1 ! OUTSIDE
            frame -1 -1 ! OUTSIDE
            frame 4 -1 ! OUTSIDE
            """);
        e.sentence("Promise 2", "RODS above 18 (SIXTEEN: 14)", """
            frame 0 19 ! OUTSIDE
            frame 1 19 ! OUTSIDE
            frame 2 19 ! OUTSIDE
            frame 3 15 ! OUTSIDE
            frame 3 18 ! OUTSIDE
            frame 0 MAX ! OUTSIDE
            frame 3 MAX ! OUTSIDE
            frame 0 18 = 0
            frame 1 18 = 1
            frame 2 18 = 2
            frame 3 14 = 3
            size 0 0 = 18
            size 1 0 = 18
            size 2 0 = 18
            size 3 0 = 14
            """);
        e.sentence("Promise 2", "FULL", """
            29 x frame 0 1
            frame 3 14 = 29
            frame 0 1 ! FULL
            frame 3 0 ! FULL
            frame 0 -1 ! FULL
            frame 0 19 ! OUTSIDE
            told 4 = 0
            """);
        e.sentence("Promise 2", "FAULT 4.", """
            frame 0 -1 ! SIZE
            frame 1 -1 ! SIZE
            frame 2 -1 ! SIZE
            frame 3 -1 ! SIZE
            frame 0 MIN ! SIZE
            told 0 = 0
            told 4 = 5
            frame 0 0 = 0
            """);
    }

    private static void both(Edges e) {
        e.sentence("Promise 3", "A new DOUBLE: its number.", """
            frame 0 2 = 0
            frame 1 3 = 1
            both 0 1 = 2
            size 2 0 = 5
            size 2 1 = 4
            told 0 = 3
            """);
        e.sentence("Promise 3", "UNKNOWN", unknown("both ? 0 ! UNKNOWN"), unknown("both 1 ? ! UNKNOWN"), unknown("both ? ? ! UNKNOWN"));
        e.sentence("Promise 3", "NO: as told (BASE, a FRAME in common, RODS, more than 5 DEEP)", """
            frame 0 9 = 0
            frame 3 7 = 1
            frame 2 9 = 2
            frame 3 7 = 3
            frame 0 1 = 4
            frame 3 1 = 5
            both 0 1 ! NO
            both 1 0 ! NO
            both 2 2 ! NO
            both 0 2 = 6
            both 1 3 = 7
            both 6 4 ! NO
            both 4 6 ! NO
            both 7 5 ! NO
            both 6 0 ! NO
            both 2 6 ! NO
            both 6 7 ! NO
            frame 0 0 = 8
            frame 3 0 = 9
            both 6 8 = 10
            both 9 7 = 11
            size 10 0 = 18
            size 11 0 = 14
            """, """
            frame 0 0 = 0
            frame 0 0 = 1
            both 0 1 = 2
            frame 0 0 = 3
            both 2 3 = 4
            frame 0 0 = 5
            both 4 5 = 6
            frame 0 0 = 7
            both 6 7 = 8
            frame 0 0 = 9
            both 9 8 = 10
            size 10 4 = 5
            frame 0 0 = 11
            both 10 11 ! NO
            both 11 10 ! NO
            """);
        e.sentence("Promise 3", "FULL.", """
            29 x frame 0 0
            both 0 1 = 29
            both 2 3 ! FULL
            both 2 2 ! NO
            both 29 0 ! NO
            both 2 30 ! UNKNOWN
            """);
    }

    private static void rod(Edges e) {
        e.sentence("Promise 4", "A ROD gets a new row of n numbers, 0 each (n 0 to 2, TEN: 0, 1)", """
            frame 0 2 = 0
            frame 2 2 = 1
            set 0 66 = 1
            set 1 66 = 1
            rod 0 1 2 = 1
            beads? 0 = 1 1 0 0
            push 0 1 0 3 = 3
            rod 0 1 1 = 1
            beads? 0 = 1 1 0 BEYOND
            push 0 1 0 3 = 3
            rod 0 1 2 = 1
            beads? 0 = 1 1 0 0
            rod 0 1 0 = 1
            beads? 0 = 1 1 BEYOND BEYOND
            rod 1 1 1 = 1
            beads? 1 = 6 BEYOND 0 BEYOND
            rod 1 1 0 = 1
            beads? 1 = 6 BEYOND BEYOND BEYOND
            """);
        e.sentence("Promise 4", "n = -1: it is missing: 1.", """
            frame 0 2 = 0
            frame 2 2 = 1
            frame 3 2 = 2
            rod 0 0 -1 = 1
            rod 0 0 -1 = 1
            rod 1 1 -1 = 1
            rod 2 1 -1 = 1
            beads? 0 = NULL NULL 0 0
            beads? 1 = 0 BEYOND NULL NULL
            beads? 2 = 0 0 NULL NULL
            rod 0 0 2 = 1
            digit 0 0 = 0
            """);
        e.sentence("Promise 4", "UNKNOWN", unknown("rod ? 0 1 ! UNKNOWN"), unknown("rod ? 9 9 ! UNKNOWN"));
        e.sentence("Promise 4", "OUTSIDE: n", FIVE_FRAMES + """
            rod 0 0 -2 ! OUTSIDE
            rod 0 0 3 ! OUTSIDE
            rod 1 0 3 ! OUTSIDE
            rod 3 0 3 ! OUTSIDE
            rod 2 0 -2 ! OUTSIDE
            rod 2 0 2 ! OUTSIDE
            rod 2 9 2 ! OUTSIDE
            rod 4 0 3 ! OUTSIDE
            rod 4 0 -2 ! OUTSIDE
            rod 0 0 MIN ! OUTSIDE
            rod 0 0 MAX ! OUTSIDE
            """);
        e.sentence("Promise 4", "FAULTS 3 (a DOUBLE), 2.", FIVE_FRAMES + """
            rod 4 0 2 ! CAST
            rod 4 0 -1 ! CAST
            rod 4 9 2 ! CAST
            rod 4 5 1 ! CAST
            rod 0 -1 2 ! BEYOND
            rod 0 3 2 ! BEYOND
            rod 0 3 -1 ! BEYOND
            rod 2 3 1 ! BEYOND
            rod 0 MIN 2 ! BEYOND
            rod 0 MAX 2 ! BEYOND
            frame 0 0 = 5
            rod 5 0 2 ! BEYOND
            """);
    }

    private static void push(Edges e) {
        e.sentence("Promise 5", "n beads more (n below 0: less) of LOWER (which 0), UPPER (1) of a ROD: how many there are then.", """
            frame 0 1 = 0
            push 0 0 0 0 = 0
            push 0 0 0 3 = 3
            push 0 0 0 1 = 4
            push 0 0 0 -2 = 2
            push 0 0 0 -2 = 0
            push 0 0 1 1 = 1
            push 0 0 1 0 = 1
            beads? 0 = 0 1
            push 0 0 1 -1 = 0
            """, """
            frame 1 1 = 0
            frame 2 1 = 1
            both 0 1 = 2
            push 2 1 1 2 = 2
            push 2 1 0 5 = 5
            push 2 0 0 10 = 10
            digit 0 0 = 15
            digit 1 0 = 10
            push 2 0 0 -10 = 0
            """);
        e.sentence("Promise 5", "UNKNOWN", unknown("push ? 0 0 1 ! UNKNOWN"), unknown("push ? 9 2 9 ! UNKNOWN"));
        e.sentence("Promise 5", "OUTSIDE: which", FIVE_FRAMES + """
            push 0 0 -1 1 ! OUTSIDE
            push 0 0 2 1 ! OUTSIDE
            push 2 0 2 1 ! OUTSIDE
            push 0 9 2 9 ! OUTSIDE
            push 4 0 MIN 0 ! OUTSIDE
            push 0 0 MAX 0 ! OUTSIDE
            """);
        e.sentence("Promise 5", "FAULTS 2, 1, 2 (of TEN UPPER, too)", FIVE_FRAMES + """
            push 0 -1 0 1 ! BEYOND
            push 0 3 0 1 ! BEYOND
            push 4 6 0 1 ! BEYOND
            push 0 MIN 0 1 ! BEYOND
            push 0 MAX 1 1 ! BEYOND
            rod 0 0 -1 = 1
            push 0 0 0 1 ! NULL
            push 0 0 1 0 ! NULL
            push 4 3 0 1 ! NULL
            rod 0 0 0 = 1
            push 0 0 0 1 ! BEYOND
            rod 0 0 1 = 1
            push 0 0 1 1 ! BEYOND
            push 0 0 0 1 = 1
            push 2 0 1 1 ! BEYOND
            push 2 0 1 0 ! BEYOND
            push 4 0 1 0 ! BEYOND
            """);
        e.sentence("Promise 5", "NO: it would be below 0, or more than there are (behind these FAULTS).", FIVE_FRAMES + """
            push 0 0 0 -1 ! NO
            push 0 0 1 -1 ! NO
            push 0 0 0 5 ! NO
            push 0 0 1 2 ! NO
            push 1 0 0 6 ! NO
            push 1 0 1 3 ! NO
            push 2 0 0 11 ! NO
            push 2 0 0 -1 ! NO
            push 3 0 0 6 ! NO
            push 3 0 1 3 ! NO
            push 0 0 0 4 = 4
            push 0 0 0 1 ! NO
            push 0 0 0 MAX ! NO
            push 0 0 0 MIN ! NO
            push 4 3 0 1 ! NO
            push 4 0 0 11 ! NO
            rod 0 1 -1 = 1
            push 0 1 0 99 ! NULL
            push 0 9 0 99 ! BEYOND
            push 2 0 1 99 ! BEYOND
            """);
    }

    private static void beads(Edges e) {
        e.sentence("Promise 6", "LOWER (which 0), UPPER (1) of a ROD.", """
            frame 3 1 = 0
            frame 2 1 = 1
            set 0 15 = 1
            set 1 9 = 1
            beads 0 0 0 ! 5
            beads 0 0 1 ! 2
            beads 1 0 0 ! 9
            rod 0 0 1 = 1
            push 0 0 0 3 = 3
            beads 0 0 0 ! 3
            """);
        e.sentence("Promise 6", "UNKNOWN", unknown("beads ? 0 0 ! UNKNOWN"), unknown("beads ? 9 2 ! UNKNOWN"));
        e.sentence("Promise 6", "OUTSIDE", FIVE_FRAMES + """
            beads 0 0 -1 ! OUTSIDE
            beads 0 0 2 ! OUTSIDE
            beads 0 9 2 ! OUTSIDE
            beads 2 0 2 ! OUTSIDE
            beads 0 0 MIN ! OUTSIDE
            beads 0 0 MAX ! OUTSIDE
            """);
        e.sentence("Promise 6", "FAULTS 2, 1, 2.", FIVE_FRAMES + """
            beads 0 -1 0 ! BEYOND
            beads 0 3 1 ! BEYOND
            beads 4 6 0 ! BEYOND
            beads 0 MIN 0 ! BEYOND
            beads 0 MAX 0 ! BEYOND
            beads 2 0 1 ! BEYOND
            rod 0 1 -1 = 1
            beads 0 1 0 ! NULL
            beads 0 1 1 ! NULL
            rod 0 1 0 = 1
            beads 0 1 0 ! BEYOND
            rod 0 1 1 = 1
            beads 0 1 0 ! 0
            beads 0 1 1 ! BEYOND
            frame 0 0 = 5
            beads 5 0 0 ! BEYOND
            """);
    }

    private static void digit(Edges e) {
        e.sentence("Promise 7", "The DIGIT of a ROD.", """
            frame 0 2 = 0
            frame 3 1 = 1
            digit 0 0 ! 0
            set 0 94 = 1
            digit 0 0 ! 4
            digit 0 1 ! 9
            set 1 15 = 1
            digit 1 0 ! 15
            """);
        e.sentence("Promise 7", "UNKNOWN", unknown("digit ? 0 ! UNKNOWN"), unknown("digit ? 9 ! UNKNOWN"));
        e.sentence("Promise 7", "FAULTS.", FIVE_FRAMES + """
            digit 0 -1 ! BEYOND
            digit 0 3 ! BEYOND
            digit 3 3 ! BEYOND
            digit 4 6 ! BEYOND
            rod 0 2 -1 = 1
            digit 0 2 ! NULL
            digit 4 5 ! NULL
            rod 0 2 1 = 1
            digit 0 2 ! BEYOND
            rod 2 0 0 = 1
            digit 2 0 ! BEYOND
            """);
    }

    private static void shows(Edges e) {
        e.sentence("Promise 8", "What a FRAME SHOWS.", FIVE_FRAMES + """
            shows 0 ! 0
            set 0 999 = 1
            set 3 0xfff = 1
            shows 0 ! 999
            shows 3 ! 4095
            set 4 987654 = 1
            shows 4 ! 987654
            shows 0 ! 987
            shows 2 ! 654
            push 2 2 0 4 = 10
            shows 2 ! 1054
            shows 4 ! 988054
            """);
        e.sentence("Promise 8", "UNKNOWN", unknown("shows ? ! LOST"));
        e.sentence("Promise 8", "FAULTS.", FIVE_FRAMES + """
            rod 0 2 -1 = 1
            shows 0 ! LOST NULL
            shows 4 ! LOST NULL
            rod 0 1 1 = 1
            shows 0 ! LOST BEYOND
            rod 2 2 0 = 1
            shows 4 ! LOST BEYOND
            rod 2 1 -1 = 1
            shows 4 ! LOST NULL
            """);
    }

    private static void set(Edges e) {
        e.sentence("Promise 9", "All RODS are WRITTEN so that it SHOWS v: 1.", FIVE_FRAMES + """
            set 0 999 = 1
            set 0 5 = 1
            beads? 0 = 0 1 0 0 0 0
            set 0 0 = 1
            shows 0 = 0
            push 1 1 0 5 = 5
            set 1 7 = 1
            proper 1 = 1
            push 2 1 0 10 = 10
            set 2 12 = 1
            proper 2 = 1
            set 3 0xabc = 1
            beads? 3 = 2 2 1 2 0 2
            frame 0 0 = 5
            set 5 0 = 1
            """);
        e.sentence("Promise 9", "UNKNOWN", unknown("set ? 0 ! UNKNOWN"), unknown("set ? -1 ! UNKNOWN"));
        e.sentence("Promise 9", "OUTSIDE: v below 0", FIVE_FRAMES + """
            set 0 -1 ! OUTSIDE
            set 3 -1 ! OUTSIDE
            set 0 LMIN ! OUTSIDE
            rod 0 0 -1 = 1
            set 0 -1 ! OUTSIDE
            set 4 -1 ! OUTSIDE
            """);
        e.sentence("Promise 9", "NO: v has more DIGITS than it has RODS", FIVE_FRAMES + """
            set 0 1000 ! NO
            set 0 999 = 1
            set 2 1000 ! NO
            set 2 999 = 1
            set 3 4096 ! NO
            set 3 4095 = 1
            set 4 1000000 ! NO
            set 4 999999 = 1
            set 0 LMAX ! NO
            set 3 LMAX ! NO
            frame 0 0 = 5
            set 5 1 ! NO
            frame 1 18 = 6
            set 6 1000000000000000000 ! NO
            set 6 LMAX ! NO
            set 6 999999999999999999 = 1
            frame 3 14 = 7
            set 7 0x100000000000000 ! NO
            set 7 0xffffffffffffff = 1
            rod 0 0 -1 = 1
            set 0 1000 ! NO
            """);
        e.sentence("Promise 9", "FAULTS of its RODS, from 0 on.", """
            frame 0 3 = 0
            set 0 123 = 1
            rod 0 2 -1 = 1
            set 0 4 ! NULL
            rod 0 1 0 = 1
            set 0 4 ! BEYOND
            digit 0 0 = 3
            rod 0 0 -1 = 1
            set 0 0 ! NULL
            rod 0 0 1 = 1
            set 0 0 ! BEYOND
            """);
    }

    private static void proper(Edges e) {
        e.sentence("Promise 10", "Whether all RODS that can be read are PROPER: 1, 0.", """
            frame 1 2 = 0
            frame 0 0 = 1
            proper 0 ! 1
            proper 1 ! 1
            push 0 1 0 5 = 5
            proper 0 ! 0
            push 0 1 0 -1 = 4
            proper 0 ! 1
            push 0 1 1 2 = 2
            proper 0 ! 0
            rod 0 1 1 = 1
            push 0 1 0 5 = 5
            proper 0 ! 1
            rod 0 1 -1 = 1
            proper 0 ! 1
            push 0 0 0 5 = 5
            proper 0 ! 0
            rod 0 0 -1 = 1
            proper 0 ! 1
            """, """
            frame 3 1 = 0
            frame 1 1 = 1
            set 0 10 = 1
            proper 0 ! 1
            copy 0 0 1 0 1 = 1
            proper 1 ! 0
            set 0 15 = 1
            proper 0 ! 1
            """);
        e.sentence("Promise 10", "UNKNOWN.", unknown("proper ? ! UNKNOWN"));
    }

    private static void size(Edges e) {
        e.sentence("Promise 11", "0 how many RODS, 1 the kind, 2 BASE, 3 RODS that can be read, 4 how DEEP.", FIVE_FRAMES + """
            size 0 0 ! 3
            size 3 1 ! 3
            size 3 2 ! 16
            size 0 4 ! 0
            size 4 0 ! 6
            size 4 1 ! 4
            size 4 2 ! 10
            size 4 3 ! 6
            size 4 4 ! 1
            rod 0 0 -1 = 1
            rod 0 1 1 = 1
            rod 2 2 0 = 1
            size 0 3 ! 1
            size 2 3 ! 2
            size 4 3 ! 3
            frame 3 0 = 5
            size 5 0 ! 0
            size 5 3 ! 0
            trace = 0
            """);
        e.sentence("Promise 11", "UNKNOWN", unknown("size ? 0 ! UNKNOWN"), unknown("size ? 5 ! UNKNOWN"));
        e.sentence("Promise 11", "OUTSIDE.", FIVE_FRAMES + """
            size 0 -1 ! OUTSIDE
            size 0 5 ! OUTSIDE
            size 4 5 ! OUTSIDE
            size 0 MIN ! OUTSIDE
            size 0 MAX ! OUTSIDE
            """);
    }

    private static void meant(Edges e) {
        String[] is = {"10000", "11000", "00100", "11010", "00001"};
        StringBuilder every = new StringBuilder(FIVE_FRAMES);
        StringBuilder not = new StringBuilder(FIVE_FRAMES);
        for (int f = 0; f < 5; f++) {
            for (int kind = 0; kind < 5; kind++) {
                boolean so = is[f].charAt(kind) == '1';
                (so ? every : not).append("meant " + f + " " + kind + (so ? " ! 1\n" : " ! CAST\n"));
            }
        }
        e.sentence("Promise 12", "A FRAME meant as a kind: 1.", every.toString());
        e.sentence("Promise 12", "UNKNOWN", unknown("meant ? 0 ! UNKNOWN"), unknown("meant ? 5 ! UNKNOWN"));
        e.sentence("Promise 12", "OUTSIDE: the kind", FIVE_FRAMES + """
            meant 0 -1 ! OUTSIDE
            meant 0 5 ! OUTSIDE
            meant 4 5 ! OUTSIDE
            meant 4 MIN ! OUTSIDE
            meant 4 MAX ! OUTSIDE
            """);
        e.sentence("Promise 12", "FAULT 3.", not.toString());
    }

    private static void asks(Edges e) {
        e.sentence("Promise 13", "What a FRAME answers to an ASK.", FIVE_FRAMES + """
            asks 0 0 = 10
            asks 3 0 = 16
            asks 4 0 = 10
            asks 0 1 = 5
            asks 0 2 = 9
            asks 0 3 = 3
            asks 3 3 = 7
            """);
        e.sentence("Promise 13", "UNKNOWN", unknown("asks ? 0 ! UNKNOWN"), unknown("asks ? 4 ! UNKNOWN"));
        e.sentence("Promise 13", "OUTSIDE", FIVE_FRAMES + """
            asks 0 -1 ! OUTSIDE
            asks 0 4 ! OUTSIDE
            asks 4 4 ! OUTSIDE
            asks 0 MIN ! OUTSIDE
            asks 0 MAX ! OUTSIDE
            trace = 0
            """);
        e.sentence("Promise 13", "FAULT 3 (bodies that had begun stay TRACED).", FIVE_FRAMES + """
            asks 2 2 ! CAST
            asks 2 3 ! CAST
            asks 4 1 ! CAST
            asks 4 3 ! CAST
            asks 4 2 = CAST
            fault = 3
            told 4 = 5
            trace = 8867
            """, """
            frame 0 1 = 0
            frame 2 1 = 1
            frame 0 1 = 2
            both 1 0 = 3
            both 2 3 = 4
            asks 4 2 = CAST
            trace = 274886
            """);
        e.sentence("Promise 14", "THE TRACE.", FIVE_FRAMES + """
            trace ! 0
            asks 2 1 = 10
            trace ! 6
            asks 1 1 = 7
            trace ! 5925
            size 0 2 = 10
            trace ! 5925
            """);
    }

    private static void copy(Edges e) {
        e.sentence("Promise 15", "n RODS of a FRAME, from i on, come to another one's, from k on (new rows alike; missing ones are missing then): n.", """
            frame 0 4 = 0
            frame 1 4 = 1
            set 0 4321 = 1
            copy 0 0 1 0 4 = 4
            shows 1 = 4321
            copy 0 3 1 0 1 = 1
            shows 1 = 4324
            copy 0 0 1 3 1 = 1
            shows 1 = 1324
            push 0 3 0 -4 = 0
            shows 1 = 1324
            push 1 3 0 1 = 2
            digit 0 0 = 1
            rod 0 0 -1 = 1
            rod 0 1 0 = 1
            rod 0 2 1 = 1
            push 0 2 0 4 = 4
            copy 0 0 1 1 3 = 3
            beads? 1 = 4 0 NULL NULL BEYOND BEYOND 4 BEYOND
            rod 1 1 2 = 1
            digit 0 0 ! NULL
            """, """
            frame 1 1 = 0
            frame 0 1 = 1
            push 0 0 0 5 = 5
            push 0 0 1 2 = 2
            copy 0 0 1 0 1 = 1
            digit 1 0 = 15
            push 1 0 0 0 ! NO
            push 1 0 0 -1 = 4
            push 1 0 1 -1 = 1
            """, """
            frame 2 2 = 0
            frame 2 2 = 1
            set 0 98 = 1
            copy 0 0 1 0 2 = 2
            shows 1 = 98
            """);
        e.sentence("Promise 15", "Of one FRAME: as if by way of others; BEYOND, if they are not all there (n below 0; with n 0 i, k above how many there are, below 0, too).", """
            frame 0 5 = 0
            set 0 54321 = 1
            copy 0 0 0 1 4 = 4
            shows 0 = 43211
            set 0 54321 = 1
            copy 0 1 0 0 4 = 4
            shows 0 = 55432
            push 0 3 0 1 = 1
            digit 0 4 = 5
            copy 0 0 0 0 5 = 5
            copy 0 0 0 0 0 = 0
            copy 0 5 0 5 0 = 0
            copy 0 5 0 0 0 = 0
            copy 0 0 0 5 0 = 0
            """, """
            frame 0 5 = 0
            set 0 54321 = 1
            copy 0 0 0 0 6 = BEYOND
            copy 0 1 0 0 5 = BEYOND
            copy 0 0 0 1 5 = BEYOND
            copy 0 2 0 0 4 = BEYOND
            copy 0 0 0 0 -1 = BEYOND
            copy 0 0 0 0 MIN = BEYOND
            copy 0 0 0 0 MAX = BEYOND
            copy 0 6 0 0 0 = BEYOND
            copy 0 0 0 6 0 = BEYOND
            copy 0 -1 0 0 0 = BEYOND
            copy 0 0 0 -1 0 = BEYOND
            copy 0 -1 0 0 2 = BEYOND
            copy 0 0 0 -1 2 = BEYOND
            copy 0 MAX 0 0 1 = BEYOND
            copy 0 0 0 MAX 1 = BEYOND
            copy 0 MAX 0 MAX MAX = BEYOND
            copy 0 MIN 0 MIN MIN = BEYOND
            shows 0 = 54321
            told 4 = 17
            """, """
            frame 2 3 = 0
            set 0 321 = 1
            rod 0 1 -1 = 1
            copy 0 0 0 1 2 = 2
            beads? 0 = 1 BEYOND 1 BEYOND NULL NULL
            """, """
            frame 0 0 = 0
            copy 0 0 0 0 0 = 0
            copy 0 0 0 0 1 = BEYOND
            copy 0 1 0 0 0 = BEYOND
            """);
    }

    private static void copyAcross(Edges e) {
        e.sentence("Promise 15", "Of two: one by one (n below 0: none, 0 is answered), up to the first that is not there (from's first); those ahead of it have come.", """
            frame 0 3 = 0
            frame 3 4 = 1
            set 0 321 = 1
            copy 0 1 1 0 3 = BEYOND
            shows 1 = 0x32
            copied = 2
            copy 0 0 1 3 2 = BEYOND
            shows 1 = 0x1032
            copied = 1
            copy 0 0 1 0 MAX = BEYOND
            shows 1 = 0x1321
            copied = 3
            copy 0 3 1 0 1 = BEYOND
            copied = 0
            copy 0 -1 1 0 1 = BEYOND
            copy 0 0 1 -1 1 = BEYOND
            copy 0 0 1 4 1 = BEYOND
            copy 0 MAX 1 MAX 1 = BEYOND
            copy 0 MIN 1 MIN MAX = BEYOND
            shows 1 = 0x1321
            told 4 = 9
            """, """
            frame 0 3 = 0
            frame 0 3 = 1
            set 0 321 = 1
            copy 0 0 1 0 0 = 0
            copy 0 0 1 0 -1 = 0
            copy 0 0 1 0 MIN = 0
            copy 0 3 1 3 0 = 0
            copy 0 4 1 4 0 = 0
            copy 0 -1 1 -1 0 = 0
            copy 0 MIN 1 MAX -1 = 0
            shows 1 = 0
            told 4 = 0
            """);
        e.sentence("Promise 15", "UNKNOWN", unknown("copy ? 0 0 0 1 ! UNKNOWN"), unknown("copy 0 0 ? 0 1 ! UNKNOWN"), unknown("copy 2 0 ? 9 1 ! UNKNOWN"));
        e.sentence("Promise 15", "NO: one is a TEN, the other is none, both being no DOUBLES", FIVE_FRAMES + """
            copy 0 0 2 0 1 ! NO
            copy 2 0 0 0 1 ! NO
            copy 1 0 2 0 0 ! NO
            copy 2 0 3 0 -1 ! NO
            copy 2 9 3 9 1 ! NO
            copy 2 0 4 0 1 ! CAST
            copy 4 0 2 0 1 ! CAST
            copy 2 0 2 1 1 = 1
            copy 0 0 3 0 1 = 1
            """);
        e.sentence("Promise 15", "FAULTS 3 (a DOUBLE), 2.", FIVE_FRAMES + """
            copy 4 0 0 0 1 ! CAST
            copy 0 0 4 0 1 ! CAST
            copy 4 0 4 0 1 ! CAST
            copy 4 9 4 9 1 ! CAST
            copy 4 0 0 0 -1 ! CAST
            copy 0 0 4 0 0 ! CAST
            fault = 3
            copy 0 3 1 0 1 = BEYOND
            fault = 2
            told 4 = 7
            """);
    }

    private static void copied(Edges e) {
        e.sentence("Promise 16", "How many came in the latest copy() that was not refused (by a FAULT 2 it was not); 0 before.", FIVE_FRAMES + """
            copied ! 0
            copy 0 0 1 0 3 = 3
            copied ! 3
            copy 5 0 1 0 1 ! UNKNOWN
            copied = 3
            copy 0 0 2 0 1 ! NO
            copied = 3
            copy 4 0 0 0 1 ! CAST
            copied = 3
            copy 0 1 1 0 3 = BEYOND
            copied = 2
            copy 0 0 0 1 3 = BEYOND
            copied = 0
            copy 0 0 0 1 2 = 2
            copied = 2
            copy 0 0 1 0 -1 = 0
            copied = 0
            copy 0 0 0 1 1 = 1
            copy 0 0 0 0 -1 = BEYOND
            copied = 0
            """);
    }

    private static void digest(Edges e) {
        e.sentence("Promise 17", "A sum of a FRAME: 7, then for each ROD, from 0 on, 31 times it and: 0 if it is missing, else 1 and how many numbers it has, "
                + "then for each of these 31 times it and that number (a long that wraps).", """
            frame 0 0 = 0
            digest 0 ! 7
            frame 0 1 = 1
            digest 1 ! 211420
            set 1 8 = 1
            digest 1 ! 211514
            rod 1 0 1 = 1
            digest 1 ! 6789
            push 1 0 0 4 = 4
            digest 1 ! 6793
            rod 1 0 0 = 1
            digest 1 ! 218
            rod 1 0 -1 = 1
            digest 1 ! 217
            frame 2 1 = 2
            digest 2 ! 6789
            both 1 2 = 3
            push 2 0 0 10 = 10
            digest 3 ! 210769
            rod 2 0 -1 = 1
            digest 3 ! 6727
            """, "frame 1 18 = 0\nset 0 999999999999999999 = 1\ndigest 0 ! " + longDigest());
        e.sentence("Promise 17", "UNKNOWN.", unknown("digest ? ! LOST"));
    }

    private static long longDigest() {
        long s = 7;
        for (int i = 0; i < 18; i++) {
            s = ((s * 31 + 3) * 31 + 4) * 31 + 1;
        }
        return s;
    }
}
