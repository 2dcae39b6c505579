/** Promises 18 to 21: numbers from floats and doubles, rests by a unit. */
final class EdgesOfNumbers {
    private static final String NO_FLOAT = " ! 2143289344\n", NO_DOUBLE = " ! 9221120237041090560\n";

    private EdgesOfNumbers() {
    }

    static void all(Edges e) {
        ofFloat(e);
        ofDouble(e);
        restFloat(e);
        restDouble(e);
    }

    private static void ofFloat(Edges e) {
        e.sentence("Promise 18", "set() to the whole part of a float with these bits (cast to a long).", """
            frame 0 18 = 0
            ofFloat 0 f:1.5 = 1
            shows 0 = 1
            ofFloat 0 f:0.99999994 = 1
            shows 0 = 0
            ofFloat 0 f:1.4E-45 = 1
            shows 0 = 0
            ofFloat 0 f:8388607.5 = 1
            shows 0 = 8388607
            ofFloat 0 f:16777215 = 1
            shows 0 = 16777215
            ofFloat 0 f:16777216 = 1
            shows 0 = 16777216
            ofFloat 0 f:16777218 = 1
            shows 0 = 16777218
            ofFloat 0 f:33554432 = 1
            shows 0 = 33554432
            ofFloat 0 f:4.5474735E-13 = 1
            shows 0 = 0
            ofFloat 0 f:9.094947E-13 = 1
            shows 0 = 0
            ofFloat 0 f:2.2737368E-13 = 1
            shows 0 = 0
            ofFloat 0 f:9.9999998E17 = 1
            shows 0 = 999999984306749440
            """);
        e.sentence("Promise 18", "UNKNOWN", EdgesOfFrames.unknown("ofFloat ? f:1 ! UNKNOWN"), EdgesOfFrames.unknown("ofFloat ? f:NaN ! UNKNOWN"));
        e.sentence("Promise 18", "OUTSIDE: it is no number, endless, below 0 (-0.0 is 0)", """
            frame 0 2 = 0
            set 0 12 = 1
            ofFloat 0 f:NaN ! OUTSIDE
            ofFloat 0 0x7f800001 ! OUTSIDE
            ofFloat 0 -1 ! OUTSIDE
            ofFloat 0 f:Infinity ! OUTSIDE
            ofFloat 0 f:-Infinity ! OUTSIDE
            ofFloat 0 f:-1 ! OUTSIDE
            ofFloat 0 f:-0.5 ! OUTSIDE
            ofFloat 0 f:-1.4E-45 ! OUTSIDE
            ofFloat 0 f:-3.4028235E38 ! OUTSIDE
            shows 0 = 12
            ofFloat 0 f:-0.0 = 1
            shows 0 = 0
            set 0 12 = 1
            ofFloat 0 0 = 1
            shows 0 = 0
            rod 0 0 -1 = 1
            ofFloat 0 f:NaN ! OUTSIDE
            """);
        e.sentence("Promise 18", "NO; FAULTS: as set().", """
            frame 0 2 = 0
            set 0 12 = 1
            ofFloat 0 f:100 ! NO
            ofFloat 0 f:99.99999 = 1
            shows 0 = 99
            ofFloat 0 f:3.4028235E38 ! NO
            ofFloat 0 f:9.223372E18 ! NO
            ofFloat 0 f:1.8446744E19 ! NO
            rod 0 1 -1 = 1
            ofFloat 0 f:1 ! NULL
            ofFloat 0 f:100 ! NO
            rod 0 0 1 = 1
            ofFloat 0 f:-0.0 ! BEYOND
            frame 1 18 = 1
            ofFloat 1 f:1.00000005E18 ! NO
            ofFloat 1 f:3.4028235E38 ! NO
            frame 0 0 = 2
            ofFloat 2 f:1 ! NO
            ofFloat 2 f:0.5 = 1
            """);
    }

    private static void ofDouble(Edges e) {
        e.sentence("Promise 19", "Of a double likewise.", """
            frame 2 18 = 0
            ofDouble 0 d:0.9999999999999999 = 1
            shows 0 = 0
            ofDouble 0 d:4.9E-324 = 1
            shows 0 = 0
            ofDouble 0 d:4503599627370495.5 = 1
            shows 0 = 4503599627370495
            ofDouble 0 d:9007199254740991 = 1
            shows 0 = 9007199254740991
            ofDouble 0 d:9007199254740992 = 1
            shows 0 = 9007199254740992
            ofDouble 0 d:9007199254740994 = 1
            shows 0 = 9007199254740994
            ofDouble 0 d:18014398509481984 = 1
            shows 0 = 18014398509481984
            ofDouble 0 d:2.44140625E-4 = 1
            shows 0 = 0
            ofDouble 0 d:1.220703125E-4 = 1
            shows 0 = 0
            ofDouble 0 d:4.8828125E-4 = 1
            shows 0 = 0
            ofDouble 0 d:9.999999999999999E17 = 1
            shows 0 = 999999999999999872
            ofDouble 0 d:1E18 ! NO
            ofDouble 0 d:9.223372036854776E18 ! NO
            ofDouble 0 d:1.8446744073709552E19 ! NO
            ofDouble 0 d:1.7976931348623157E308 ! NO
            shows 0 = 999999999999999872
            ofDouble 0 d:-0.0 = 1
            shows 0 = 0
            """, """
            frame 3 14 = 0
            ofDouble 0 d:72057594037927928 = 1
            shows 0 = 72057594037927928
            ofDouble 0 d:72057594037927936 ! NO
            """, """
            frame 0 2 = 0
            set 0 12 = 1
            ofDouble 0 d:NaN ! OUTSIDE
            ofDouble 0 0x7ff0000000000001 ! OUTSIDE
            ofDouble 0 -1 ! OUTSIDE
            ofDouble 0 d:Infinity ! OUTSIDE
            ofDouble 0 d:-Infinity ! OUTSIDE
            ofDouble 0 d:-1 ! OUTSIDE
            ofDouble 0 d:-0.25 ! OUTSIDE
            ofDouble 0 d:-4.9E-324 ! OUTSIDE
            ofDouble 0 d:100 ! NO
            ofDouble 0 d:99.99999999999999 = 1
            shows 0 = 99
            rod 0 1 0 = 1
            ofDouble 0 d:1 ! BEYOND
            ofDouble 0 d:100 ! NO
            rod 0 0 -1 = 1
            ofDouble 0 d:0 ! NULL
            ofDouble 0 d:-1 ! OUTSIDE
            """, EdgesOfFrames.unknown("ofDouble ? d:1 ! UNKNOWN"), EdgesOfFrames.unknown("ofDouble ? d:NaN ! UNKNOWN"));
    }

    private static void restFloat(Edges e) {
        e.sentence("Promise 20", "The rest (the machine's %) of a float by a unit: bits of both and of it.", rests("restFloat", "f:")
                + """
            restFloat f:1.4E-45 f:3.4028235E38 ! f:1.4E-45
            restFloat f:3.4028235E38 f:3.4028235E38 ! f:0
            restFloat f:3.4028235E38 f:1.4E-45 ! f:0
            restFloat f:2.8E-45 f:4.2E-45 ! f:2.8E-45
            restFloat f:7E-45 f:4.2E-45 ! f:2.8E-45
            restFloat f:1.1754944E-38 f:1.1754942E-38 ! f:1.4E-45
            restFloat f:1.1754942E-38 f:1.1754944E-38 ! f:1.1754942E-38
            restFloat f:4.7019774E-38 f:3.5264831E-38 ! f:1.1754944E-38
            restFloat f:1.0000002 f:1.0000001 ! f:1.1920929E-7
            """, farFloats());
        e.sentence("Promise 20", "Bits of no number 2143289344: one of both is no number, a is endless, the unit is 0.",
                "restFloat f:NaN f:1" + NO_FLOAT + "restFloat -1 f:1" + NO_FLOAT + "restFloat 0x7f800001 f:1" + NO_FLOAT
                + "restFloat f:1 f:NaN" + NO_FLOAT + "restFloat f:1 -1" + NO_FLOAT + "restFloat f:NaN f:NaN" + NO_FLOAT
                + "restFloat f:0 0x7f800001" + NO_FLOAT + "restFloat f:NaN f:Infinity" + NO_FLOAT
                + "restFloat f:Infinity f:1" + NO_FLOAT + "restFloat f:-Infinity f:1" + NO_FLOAT
                + "restFloat f:Infinity f:Infinity" + NO_FLOAT + "restFloat f:Infinity f:NaN" + NO_FLOAT
                + "restFloat f:1 f:0" + NO_FLOAT + "restFloat f:1 f:-0.0" + NO_FLOAT + "restFloat f:0 f:0" + NO_FLOAT
                + "restFloat f:NaN f:0" + NO_FLOAT + "restFloat f:1 f:1.4E-45 ! f:0\nfault = 0\ntold 4 = 0");
    }

    private static void restDouble(Edges e) {
        e.sentence("Promise 21", "Of doubles likewise: 9221120237041090560.", rests("restDouble", "d:") + """
            restDouble d:4.9E-324 d:1.7976931348623157E308 ! d:4.9E-324
            restDouble d:1.7976931348623157E308 d:1.7976931348623157E308 ! d:0
            restDouble d:1.7976931348623157E308 d:4.9E-324 ! d:0
            restDouble d:2.5E-323 d:1.5E-323 ! d:1E-323
            restDouble d:2.2250738585072014E-308 d:2.225073858507201E-308 ! d:4.9E-324
            restDouble d:1.0000000000000004 d:1.0000000000000002 ! d:2.220446049250313E-16
            restDouble d:8.900295434028806E-308 d:6.675221575521604E-308 ! d:2.2250738585072014E-308
            """, farDoubles(), "restDouble d:NaN d:1" + NO_DOUBLE + "restDouble -1 d:1" + NO_DOUBLE + "restDouble 0x7ff0000000000001 d:1" + NO_DOUBLE
                + "restDouble d:1 d:NaN" + NO_DOUBLE + "restDouble d:1 -1" + NO_DOUBLE + "restDouble d:NaN d:Infinity" + NO_DOUBLE
                + "restDouble d:Infinity d:1" + NO_DOUBLE + "restDouble d:-Infinity d:1" + NO_DOUBLE
                + "restDouble d:Infinity d:Infinity" + NO_DOUBLE + "restDouble d:1 d:0" + NO_DOUBLE
                + "restDouble d:1 d:-0.0" + NO_DOUBLE + "restDouble d:0 d:0" + NO_DOUBLE
                + "restDouble d:1 d:4.9E-324 ! d:0\nfault = 0\ntold 4 = 0");
    }

    /** What holds of both: the sign is a's, the unit's does not matter, an endless unit leaves a. */
    private static String rests(String call, String bits) {
        String[][] rests = {{"7", "4", "3"}, {"-7", "4", "-3"}, {"7", "-4", "3"}, {"-7", "-4", "-3"}, {"4", "4", "0"},
            {"-4", "4", "-0.0"}, {"3", "4", "3"}, {"0", "4", "0"}, {"-0.0", "4", "-0.0"}, {"5.5", "2", "1.5"}, {"0.75", "0.5", "0.25"},
            {"4", "Infinity", "4"}, {"-4", "-Infinity", "-4"}, {"0", "Infinity", "0"}, {"-0.0", "Infinity", "-0.0"}};
        StringBuilder run = new StringBuilder();
        for (String[] r : rests) {
            run.append(call + " " + bits + r[0] + " " + bits + r[1] + " ! " + bits + r[2] + "\n");
        }
        return run.toString();
    }

    /** Numbers far apart: from one another, from what a float holds without a rest. */
    private static String farFloats() {
        float[] all = {Float.MIN_VALUE, 3 * Float.MIN_VALUE, Float.MIN_NORMAL, 3 * Float.MIN_NORMAL, 0.1f, 1, 3, 7, 16777215, 1e10f, 1e30f,
            Float.MAX_VALUE};
        StringBuilder run = new StringBuilder();
        for (float a : all) {
            for (float unit : all) {
                run.append("restFloat " + Float.floatToIntBits(-a) + " " + Float.floatToIntBits(unit) + " = " + Float.floatToIntBits(-a % unit) + "\n");
            }
        }
        return run.toString();
    }

    private static String farDoubles() {
        double[] all = {Double.MIN_VALUE, 3 * Double.MIN_VALUE, Double.MIN_NORMAL, 3 * Double.MIN_NORMAL, 0.1, 1, 3, 7, 9007199254740991d, 1e20,
            1e300, Double.MAX_VALUE};
        StringBuilder run = new StringBuilder();
        for (double a : all) {
            for (double unit : all) {
                run.append("restDouble " + Double.doubleToLongBits(-a) + " " + Double.doubleToLongBits(unit) + " = "
                        + Double.doubleToLongBits(-a % unit) + "\n");
            }
        }
        return run.toString();
    }
}
