/** Exercises (Terms 4), promises 40 to 45: what is told of them and of all. */
final class EdgesOfExercises {
    private static final String TERMS = "Terms 4";

    private EdgesOfExercises() {
    }

    static void all(Edges e) {
        drawn(e);
        blanks(e);
        fillings(e);
        exercise(e);
        place(e);
        answer(e);
        told(e);
        fault(e);
    }

    /** An exercise by its kind and seed: its places (_ is a BLANK), how many FILLINGS, THE FIRST; reckoned apart from the program. */
    private static String made(int kind, int seed, String places, int ways, String first) {
        StringBuilder run = new StringBuilder("exercise " + kind + " " + seed + " = 0\nfillings 0 ! " + ways + "\n");
        for (int p = 0; p < 12; p++) {
            run.append("place 0 " + p + " ! " + (places.charAt(p) == '_' ? "NONE" : "" + places.charAt(p)) + "\n");
            run.append("answer 0 " + p + " ! " + first.charAt(p) + "\n");
        }
        return run + "told 6 = " + (ways == 1 ? 1 : 0) + "\n";
    }

    private static void drawn(Edges e) {
        e.sentence(TERMS, "EXERCISES are numbered from 0 on, 200 ever.", """
            fillings 0 ! UNKNOWN
            exercise 0 0 = 0
            exercise 1 1 = 1
            fillings 2 ! UNKNOWN
            197 x exercise 2 2
            exercise 0 0 = 199
            exercise 0 0 ! FULL
            fillings 199 = 1
            fillings 200 ! UNKNOWN
            told 1 = 200
            """);
        e.sentence(TERMS, "Of a seed: each number drawn is the upper 16 bits of s (0 to 65535), s (the seed first), an int that wraps, having become 1103515245 times s and 12345.",
                made(0, 286434947, "_35459__0_94", 6, "035459000494"), made(0, -59267453, "_00000000000", 1, "000000000000"),
                made(0, 230538014, "53_6970012_2", 1, "535697001232"), made(0, -1, "6__4090011_6", 1, "697409001106"),
                made(0, Integer.MAX_VALUE, "92_177_01_06", 1, "929177001106"), made(0, Integer.MIN_VALUE, "7_8468001236", 1, "768468001236"),
                made(0, 0, "000236000_36", 1, "000236000236"));
        e.sentence(TERMS, "Drawn are a, b (modulo 1000 each); of KIND 0 a + b = c, of 1 a - b = c (the greater one is a), of 2 a * b = c.",
                made(0, 173590, "_999990_1998", 1, "999999001998"), made(1, 173590, "_999990_0000", 1, "999999000000"),
                made(2, 173590, "_999999_8001", 1, "999999998001"), made(0, 2614813, "00000_000000", 1, "000000000000"),
                made(1, 2614813, "00000_000000", 1, "000000000000"), made(2, 2614813, "00000_000000", 10, "000000000000"),
                made(1, 0, "236000000_36", 1, "236000000236"), made(1, 1, "838__6000312", 1, "838526000312"),
                made(1, 1265, "_572570000_0", 1, "257257000000"));
        e.sentence(TERMS, "PLACES 0 .. 11 have their DIGITS: 0 .. 2 those of a, the highest first, 3 .. 5 of b, 6 .. 11 of c (with 0 in front).",
                made(2, -1, "6__4092850_3", 1, "697409285073"), made(0, -115164386, "00_2380__238", 1, "000238000238"));
    }

    private static void blanks(Edges e) {
        e.sentence(TERMS, "1 and one drawn modulo 4 BLANKS: for each one drawn modulo 12: that PLACE, or the next one behind it (0 behind 11) that is no BLANK yet.",
                made(0, 0, "000236000_36", 1, "000236000236"), made(2, 0, "000236000_00", 1, "000236000000"),
                made(0, 2, "_76817001___", 8, "276817001093"), made(1, 54, "_9630000059_", 1, "896300000596"),
                made(0, 41, "_10_1_00052_", 60, "010510000520"), made(0, 1280, "22422400____", 1, "224224000448"),
                made(2, 88117, "000____00000", 1000, "000000000000"));
    }

    private static void fillings(Edges e) {
        e.sentence(TERMS, "A FILLING gives each BLANK a DIGIT, so that it is true (of KIND 1 also with a less than b: none).",
                made(1, 2, "_17676000___", 3, "717676000041"), made(1, 1672658, "00_0_000_0_0", 1, "000000000000"),
                made(0, 1672658, "00_0_000_0_0", 10, "000000000000"), made(2, 1672658, "00_0_000_0_0", 42, "000000000000"),
                made(2, 571807, "99999_99_0__", 9, "999991990009"), made(1, 1614937, "99_999000_0_", 1, "999999000000"),
                // Of each PLACE of c one in which that PLACE alone rules fillings out.
                made(2, 16, "_69_29007__1", 1, "269029007801"), made(2, 48, "_06_8106__86", 2, "106581061586"),
                made(2, 11, "149_0407___6", 1, "149504075096"), made(0, 6, "_94515_01_09", 6, "494515001009"),
                made(2, 32, "537_87___119", 1, "537287154119"), made(0, 8, "6_46__001266", 7, "604662001266"),
                made(1, 8, "6_46__000002", 10, "604602000002"), made(0, 5, "65522_000880", 1, "655225000880"),
                made(1, 5, "65522_000430", 1, "655225000430"), made(2, 34, "21_404__6_56", 1, "214404086456"));
        e.sentence(TERMS, "THE FIRST is the one with the least DIGITS, compared by PLACES from 0 on.",
                made(0, 1614937, "99_999001_9_", 9, "991999001990"), made(0, 571807, "99999_00_9__", 10, "999990001989"),
                made(2, 92019, "0_0_00000000", 19, "000000000000"), made(2, 41, "_10_1_00510_", 2, "010510005100"));
    }

    private static void exercise(Edges e) {
        e.sentence("Promise 40", "A new EXERCISE: its number.", """
            exercise 0 1 = 0
            exercise 1 MIN = 1
            exercise 2 MAX = 2
            told 1 = 3
            """);
        e.sentence("Promise 40", "OUTSIDE: the kind", """
            exercise -1 0 ! OUTSIDE
            exercise 3 0 ! OUTSIDE
            exercise MIN 0 ! OUTSIDE
            exercise MAX 0 ! OUTSIDE
            told 1 = 0
            exercise 0 0 = 0
            """);
        e.sentence("Promise 40", "FULL.", """
            199 x exercise 0 0
            exercise 2 0 = 199
            exercise 0 0 ! FULL
            exercise 2 MAX ! FULL
            exercise 3 0 ! OUTSIDE
            exercise -1 0 ! OUTSIDE
            """);
    }

    private static String noSuch(String call) {
        StringBuilder run = new StringBuilder("exercise 0 0 = 0\nexercise 1 2 = 1\n");
        for (String n : new String[] {"-1", "2", "199", "200", "MIN", "MAX"}) {
            run.append(call.replace("?", n)).append('\n');
        }
        return run.toString();
    }

    private static void place(Edges e) {
        e.sentence("Promise 41", "The DIGIT at a PLACE; NONE: it is a BLANK.", """
            exercise 1 2 = 0
            place 0 0 ! NONE
            place 0 1 ! 1
            place 0 8 ! 0
            place 0 11 ! NONE
            exercise 0 0 = 1
            place 1 0 ! 0
            place 1 11 ! 6
            """);
        e.sentence("Promise 41", "UNKNOWN", "place 0 0 ! UNKNOWN", noSuch("place ? 0 ! UNKNOWN"), noSuch("place ? 12 ! UNKNOWN"));
        e.sentence("Promise 41", "OUTSIDE.", """
            exercise 1 2 = 0
            place 0 -1 ! OUTSIDE
            place 0 12 ! OUTSIDE
            place 0 MIN ! OUTSIDE
            place 0 MAX ! OUTSIDE
            """);
        e.sentence("Promise 42", "How many FILLINGS.", """
            exercise 0 0 = 0
            exercise 2 88117 = 1
            exercise 1 916 = 2
            fillings 0 ! 1
            fillings 1 ! 1000
            fillings 2 ! 100
            """);
        e.sentence("Promise 42", "UNKNOWN.", "fillings 0 ! UNKNOWN", noSuch("fillings ? ! UNKNOWN"));
    }

    private static void answer(Edges e) {
        e.sentence("Promise 43", "The DIGIT of a PLACE in THE FIRST FILLING (of one that is no BLANK its own).", """
            exercise 1 2 = 0
            answer 0 0 ! 7
            answer 0 1 ! 1
            answer 0 9 ! 0
            answer 0 10 ! 4
            answer 0 11 ! 1
            """);
        e.sentence("Promise 43", "UNKNOWN", "answer 0 0 ! UNKNOWN", noSuch("answer ? 0 ! UNKNOWN"), noSuch("answer ? 12 ! UNKNOWN"));
        e.sentence("Promise 43", "OUTSIDE.", """
            exercise 1 2 = 0
            answer 0 -1 ! OUTSIDE
            answer 0 12 ! OUTSIDE
            answer 0 MIN ! OUTSIDE
            answer 0 MAX ! OUTSIDE
            """);
    }

    private static void told(Edges e) {
        e.sentence("Promise 44", "How many: 0 FRAMES, 1 EXERCISES, 2 METHODS that were not STUCK, 3 STUCK ones, "
                + "4 FAULTS that were answered ever (by LOST, too), 5 PUPIL's STEPS, 6 EXERCISES with one FILLING.", """
            told 0 ! 0
            frame 0 1 = 0
            frame 0 1 = 1
            both 0 1 = 2
            frame 0 19 ! OUTSIDE
            told 0 ! 3
            exercise 0 0 = 0
            exercise 0 2 = 1
            exercise 1 0 = 2
            exercise 3 0 ! OUTSIDE
            told 1 ! 3
            told 6 ! 2
            add 0 0 = 0
            add 0 5 = 1
            add 0 -1 ! OUTSIDE
            turn 0 1 = 1
            divide 0 1 0 ! ZERO
            undo = 0
            told 2 ! 3
            told 3 ! 0
            add 0 5 = -101
            add 0 10 = -100
            told 2 ! 3
            told 3 ! 2
            told 4 ! 1
            digit 0 1 ! BEYOND
            rod 0 0 -1 = 1
            shows 0 ! LOST NULL
            shows 9 ! LOST
            part 0 9 ! LOST BEYOND
            copy 0 0 1 1 1 = BEYOND
            asks 2 1 ! CAST
            told 4 ! 6
            pupil 0 0 0 0 = 1
            told 5 ! 1
            begin = 1
            told 5 ! 0
            """);
        e.sentence("Promise 44", "OUTSIDE.", """
            told -1 ! OUTSIDE
            told 7 ! OUTSIDE
            told MIN ! OUTSIDE
            told MAX ! OUTSIDE
            """);
    }

    private static void fault(Edges e) {
        e.sentence("Promise 45", "The FAULT of the latest call that had one; 0: none so far.", """
            fault ! 0
            frame 0 1 = 0
            digit 9 0 ! UNKNOWN
            size 0 9 ! OUTSIDE
            push 0 0 0 9 ! NO
            shows 9 ! LOST
            add 0 99 = -100
            fault ! 0
            meant 0 1 ! CAST
            fault ! 3
            digit 0 0 = 0
            digit 9 0 ! UNKNOWN
            fault ! 3
            part 0 0 ! LOST NULL
            fault ! 1
            frame 0 -1 ! SIZE
            fault ! 4
            copy 0 0 0 0 2 = BEYOND
            fault ! 2
            frame 0 1 = 1
            divide 0 1 0 ! ZERO
            fault ! 5
            """);
    }
}
