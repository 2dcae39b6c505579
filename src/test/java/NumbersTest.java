import java.util.Random;

/** Promises 18 to 21: numbers from floats and doubles, rests by a unit. */
public final class NumbersTest {
    private static final int UNKNOWN = -1, OUTSIDE = -2, NO = -3;
    private static final int NULL = -11;
    private static final int NO_FLOAT = 2143289344;
    private static final long NO_DOUBLE = 9221120237041090560L;
    private static final Check check = new Check("numbers");

    private NumbersTest() {
    }

    public static void main(String[] args) {
        ofFloat();
        ofDouble();
        oddRests();
        drawnRests();
        nearRests();
        check.end();
    }

    private static int bits(float v) {
        return Float.floatToRawIntBits(v);
    }

    private static long bits(double v) {
        return Double.doubleToRawLongBits(v);
    }

    private static void ofFloat() {
        BeadSchool x = new BeadSchool();
        x.frame(1, 18);
        float[] good = {0f, -0f, 0.99999994f, 1f, 1.5f, 255.75f, 16777215f, 16777216f, 9.9999996e11f,
            Float.MIN_VALUE, Float.MIN_NORMAL, 9.9999998e17f};
        for (float v : good) {
            x.set(0, 7);
            check.due("18 of " + v, x.ofFloat(0, bits(v)), 1);
            check.due("18 shows " + v, x.shows(0), (long) v);
        }
        float[] bad = {-1f, -0.25f, -Float.MIN_VALUE, Float.NaN, Float.POSITIVE_INFINITY, Float.NEGATIVE_INFINITY};
        for (float v : bad) {
            check.due("18 of " + v, x.ofFloat(0, bits(v)), OUTSIDE);
        }
        check.due("18 another no number", x.ofFloat(0, 0xff800001), OUTSIDE);
        check.due("18 nothing changed", x.shows(0), (long) 9.9999998e17f);
        check.due("18 too great", x.ofFloat(0, bits(1.0000001e18f)), NO);
        check.due("18 greatest", x.ofFloat(0, bits(Float.MAX_VALUE)), NO);
        check.due("18 2^62", x.ofFloat(0, bits(4.611686e18f)), NO);
        check.due("18 2^63", x.ofFloat(0, bits(9.223372e18f)), NO);
        check.due("18 2^64", x.ofFloat(0, bits(1.8446744e19f)), NO);
        check.due("18 unknown", x.ofFloat(1, bits(-1f)), UNKNOWN);
        x.rod(0, 3, -1);
        check.due("18 fault", x.ofFloat(0, bits(1f)), NULL);
        check.due("18 no ahead of a fault", x.ofFloat(0, bits(1.0e19f)), NO);
        check.due("18 outside ahead of a fault", x.ofFloat(0, bits(-1f)), OUTSIDE);
    }

    private static void ofDouble() {
        BeadSchool x = new BeadSchool();
        x.frame(2, 18);
        x.frame(3, 14);
        double[] good = {0d, -0d, 0.9999999999999999, 1d, 2.5, 4503599627370495.5, 9007199254740991d,
            72057594037927928d, 123456789012345680d, Double.MIN_VALUE, Double.MIN_NORMAL, 9.999999999999999e17};
        for (double v : good) {
            x.set(0, 7);
            check.due("19 of " + v, x.ofDouble(0, bits(v)), 1);
            check.due("19 shows " + v, x.shows(0), (long) v);
        }
        double[] bad = {-1d, -1e-300, -Double.MIN_VALUE, Double.NaN, Double.POSITIVE_INFINITY, Double.NEGATIVE_INFINITY};
        for (double v : bad) {
            check.due("19 of " + v, x.ofDouble(0, bits(v)), OUTSIDE);
        }
        check.due("19 another no number", x.ofDouble(0, 0x7ff0000000000001L), OUTSIDE);
        check.due("19 too great", x.ofDouble(0, bits(1e18)), NO);
        check.due("19 greatest", x.ofDouble(0, bits(Double.MAX_VALUE)), NO);
        check.due("19 sixteen's greatest", x.ofDouble(1, bits(72057594037927928d)), 1);
        check.due("19 sixteen, too great", x.ofDouble(1, bits(72057594037927936d)), NO);
        check.due("19 2^63", x.ofDouble(1, bits(9223372036854775808d)), NO);
        check.due("19 2^64", x.ofDouble(1, bits(18446744073709551616d)), NO);
        check.due("19 unknown", x.ofDouble(2, bits(1d)), UNKNOWN);
        x.rod(1, 13, -1);
        check.due("19 fault", x.ofDouble(1, bits(1d)), NULL);
        check.due("19 the fault's kind", x.fault(), 1);
    }

    private static void floats(float a, float unit) {
        int want = Float.floatToIntBits(a % unit);
        check.due("20 " + a + " by " + unit, new BeadSchool().restFloat(bits(a), bits(unit)), want);
    }

    private static void doubles(double a, double unit) {
        long want = Double.doubleToLongBits(a % unit);
        check.due("21 " + a + " by " + unit, new BeadSchool().restDouble(bits(a), bits(unit)), want);
    }

    private static void oddRests() {
        BeadSchool x = new BeadSchool();
        check.due("20 no number", x.restFloat(0xffc12345, bits(1f)), NO_FLOAT);
        check.due("20 unit no number", x.restFloat(bits(1f), 0x7f800001), NO_FLOAT);
        check.due("20 endless", x.restFloat(bits(Float.NEGATIVE_INFINITY), bits(1f)), NO_FLOAT);
        check.due("20 unit 0", x.restFloat(bits(1f), bits(-0f)), NO_FLOAT);
        check.due("20 0 by 0", x.restFloat(0, 0), NO_FLOAT);
        check.due("20 unit endless", x.restFloat(bits(-3.5f), bits(Float.NEGATIVE_INFINITY)), bits(-3.5f));
        check.due("20 both endless", x.restFloat(bits(Float.POSITIVE_INFINITY), bits(Float.POSITIVE_INFINITY)), NO_FLOAT);
        check.due("20 -0 stays", x.restFloat(bits(-0f), bits(2f)), bits(-0f));
        check.due("20 -4 by 2 is -0", x.restFloat(bits(-4f), bits(2f)), bits(-0f));
        check.due("20 the sign is a's", x.restFloat(bits(-7f), bits(-4f)), bits(-3f));
        check.due("20 7 by -4", x.restFloat(bits(7f), bits(-4f)), bits(3f));
        check.due("21 no number", x.restDouble(0xfff8000000000123L, bits(1d)), NO_DOUBLE);
        check.due("21 unit no number", x.restDouble(bits(1d), 0x7ff0000000000001L), NO_DOUBLE);
        check.due("21 endless", x.restDouble(bits(Double.POSITIVE_INFINITY), bits(1d)), NO_DOUBLE);
        check.due("21 unit 0", x.restDouble(bits(1d), bits(0d)), NO_DOUBLE);
        check.due("21 unit endless", x.restDouble(bits(-3.5), bits(Double.POSITIVE_INFINITY)), bits(-3.5));
        check.due("21 -4 by 2 is -0", x.restDouble(bits(-4d), bits(2d)), bits(-0d));
        check.due("21 5.5 by -2", x.restDouble(bits(5.5), bits(-2d)), bits(1.5));
        check.due("20, 21 no fault", x.told(4), 0);
        float[] f = {0f, -0f, Float.MIN_VALUE, -Float.MIN_VALUE, 3 * Float.MIN_VALUE, Float.MIN_NORMAL, 1f, -1f, 0.1f,
            1.9999999f, 16777215f, 1e10f, -1e20f, 3e38f, Float.MAX_VALUE, Float.POSITIVE_INFINITY, Float.NaN};
        for (float a : f) {
            for (float unit : f) {
                floats(a, unit);
            }
        }
        double[] d = {0d, -0d, Double.MIN_VALUE, -Double.MIN_VALUE, 5 * Double.MIN_VALUE, Double.MIN_NORMAL, 1d, -1d, 0.1,
            1.9999999999999998, 9007199254740991d, 1e100, -1e200, 1e308, Double.MAX_VALUE, Double.NEGATIVE_INFINITY, Double.NaN};
        for (double a : d) {
            for (double unit : d) {
                doubles(a, unit);
            }
        }
    }

    private static void drawnRests() {
        Random r = new Random(21);
        for (int n = 0; n < 20000; n++) {
            floats(Float.intBitsToFloat(r.nextInt()), Float.intBitsToFloat(r.nextInt()));
            doubles(Double.longBitsToDouble(r.nextLong()), Double.longBitsToDouble(r.nextLong()));
        }
    }

    private static void nearRests() {
        Random r = new Random(20);
        for (int n = 0; n < 20000; n++) {
            int unit = r.nextInt(1 << (1 + r.nextInt(30)));
            floats(Float.intBitsToFloat(unit + r.nextInt(1 << 26)), Float.intBitsToFloat(unit));
            long by = r.nextLong() >>> (1 + r.nextInt(62));
            doubles(Double.longBitsToDouble(by + (r.nextLong() >>> 9)), Double.longBitsToDouble(by));
        }
    }
}
