import java.math.BigInteger;
import java.util.ArrayList;
import java.util.Arrays;
import java.util.HashSet;
import java.util.List;
import java.util.Set;

/**
 * The document once more, told another way: with rows that are really null or short,
 * kinds that are really classes, and FAULTS that the machine really throws.
 * It shares no code with BeadSchool, so that a fault in one shows against the other.
 */
final class Oracle {
    private static final int UNKNOWN = -1, OUTSIDE = -2, NO = -3, FULL = -4, NONE = -5;

    @SuppressWarnings("serial")
    private static final class Refused extends RuntimeException {
        final int code;

        Refused(int code) {
            super(null, null, false, false);
            this.code = code;
        }
    }

    @SuppressWarnings("serial")
    private static final class Stuck extends RuntimeException {
        final int by, rod, frame;

        Stuck(int by, int rod, int frame) {
            super(null, null, false, false);
            this.by = by;
            this.rod = rod;
            this.frame = frame;
        }
    }

    // ---- kinds

    private interface Shows {
        int askBase();
    }

    private interface Slides {
        int askBeads();
    }

    private interface Carries {
        int askCarry();
    }

    private interface Judges {
        int askJudge();
    }

    private abstract class Any implements Shows {
        int no;

        abstract int length();

        abstract int[] row(int i);

        abstract Simple owner(int i);

        abstract int base();

        abstract Set<Any> all();

        int deep() {
            return 0;
        }

        int read(int i) {
            int[] r = row(i);
            int lower = r[0];
            return owner(i) instanceof Ten ? lower : lower + 5 * r[1];
        }

        boolean canRead(int i) {
            try {
                read(i);
                return true;
            } catch (NullPointerException | IndexOutOfBoundsException e) {
                return false;
            }
        }

        BigInteger shown() {
            BigInteger sum = BigInteger.ZERO;
            for (int i = 0; i < length(); i++) {
                sum = sum.add(BigInteger.valueOf(base()).pow(i).multiply(BigInteger.valueOf(read(i))));
            }
            return sum;
        }

        int[] written(int i, int d) {
            if (owner(i) instanceof Ten) {
                return new int[] {d};
            }
            int upper = Math.min(2, d / 5);
            return new int[] {d - 5 * upper, upper};
        }

        boolean proper(int i) {
            for (int d = 0; d < base(); d++) {
                if (Arrays.equals(written(i, d), row(i))) {
                    return true;
                }
            }
            return false;
        }

        boolean proper() {
            for (int i = 0; i < length(); i++) {
                if (canRead(i) && !proper(i)) {
                    return false;
                }
            }
            return true;
        }

        public int askBase() {
            begun(1);
            return 10;
        }
    }

    private abstract class Simple extends Any {
        final int[][] rods;

        Simple(int n, int numbers) {
            rods = new int[n][];
            for (int i = 0; i < n; i++) {
                rods[i] = new int[numbers];
            }
        }

        int length() {
            return rods.length;
        }

        int[] row(int i) {
            return rods[i];
        }

        Simple owner(int i) {
            return this;
        }

        int base() {
            return 10;
        }

        Set<Any> all() {
            return new HashSet<>(List.of(this));
        }

        abstract int[] most();
    }

    private class Five extends Simple implements Slides, Carries, Judges {
        Five(int n) {
            super(n, 2);
        }

        int[] most() {
            return new int[] {4, 1};
        }

        public int askBeads() {
            begun(4);
            return 5;
        }

        public int askCarry() {
            begun(7);
            return askBase() - 1;
        }

        public int askJudge() {
            begun(10);
            return length();
        }
    }

    private class Seven extends Five {
        Seven(int n) {
            super(n);
        }

        @Override
        int[] most() {
            return new int[] {5, 2};
        }

        @Override
        public int askBeads() {
            begun(5);
            return super.askBeads() + 2;
        }

        @Override
        public int askCarry() {
            begun(8);
            return 5 + askBeads();
        }

        @Override
        public int askJudge() {
            begun(11);
            return 2 * super.askJudge();
        }
    }

    private final class Sixteen extends Seven {
        Sixteen(int n) {
            super(n);
        }

        @Override
        int base() {
            return 16;
        }

        @Override
        public int askBase() {
            begun(2);
            return 16;
        }

        @Override
        public int askJudge() {
            begun(12);
            return super.askJudge() + 1;
        }
    }

    private final class Ten extends Simple implements Slides {
        Ten(int n) {
            super(n, 1);
        }

        int[] most() {
            return new int[] {10};
        }

        public int askBeads() {
            begun(6);
            return 10;
        }
    }

    private final class Two extends Any implements Carries {
        final Any first, second;

        Two(Any first, Any second) {
            this.first = first;
            this.second = second;
        }

        int length() {
            return first.length() + second.length();
        }

        int[] row(int i) {
            return i < second.length() ? second.row(i) : first.row(i - second.length());
        }

        Simple owner(int i) {
            return i < second.length() ? second.owner(i) : first.owner(i - second.length());
        }

        int base() {
            return first.base();
        }

        Set<Any> all() {
            Set<Any> s = first.all();
            s.addAll(second.all());
            s.add(this);
            return s;
        }

        @Override
        int deep() {
            return 1 + Math.max(first.deep(), second.deep());
        }

        @Override
        public int askBase() {
            begun(3);
            return first.askBase();
        }

        public int askCarry() {
            begun(9);
            int one = ((Carries) first).askCarry();
            return one + ((Carries) second).askCarry();
        }
    }

    // ---- state

    private final List<Any> frames = new ArrayList<>();
    private int trace, copied, fault, faults, went, stuckOnes;
    private List<int[]> steps = new ArrayList<>();
    private int standing;
    private boolean disturbed;
    private int[] stuckAt = {0, NONE, NONE};
    private int[][] tally;
    private long[][] parts;
    private int methodF;
    private final List<int[]> pupil = new ArrayList<>();
    private final List<int[]> exercises = new ArrayList<>();
    private final List<boolean[]> blanks = new ArrayList<>();
    private final List<Integer> ways = new ArrayList<>();
    private final List<int[]> firsts = new ArrayList<>();

    private void begun(int body) {
        trace = trace * 31 + body;
    }

    long call(String name, long[] a) {
        boolean isLong = List.of("shows", "digest", "part").contains(name);
        int kind;
        try {
            return act(name, a);
        } catch (Refused r) {
            return isLong ? Long.MIN_VALUE : r.code;
        } catch (NullPointerException e) {
            kind = 1;
        } catch (IndexOutOfBoundsException e) {
            kind = 2;
        } catch (ClassCastException e) {
            kind = 3;
        } catch (NegativeArraySizeException e) {
            kind = 4;
        } catch (ArithmeticException e) {
            kind = 5;
        }
        fault = kind;
        faults++;
        return isLong ? Long.MIN_VALUE : -10 - kind;
    }

    private Any known(long f) {
        refuse(f < 0 || f >= frames.size(), UNKNOWN);
        return frames.get((int) f);
    }

    private static void refuse(boolean so, int code) {
        if (so) {
            throw new Refused(code);
        }
    }

    private long act(String name, long[] a) {
        switch (name) {
            case "frame": return newFrame((int) a[0], (int) a[1]);
            case "both": return newTwo(known(a[0]), known(a[1]));
            case "rod": return newRow(known(a[0]), (int) a[1], (int) a[2]);
            case "push": return pushed(known(a[0]), (int) a[1], (int) a[2], a[3]);
            case "beads": {
                Any f = known(a[0]);
                refuse(a[2] < 0 || a[2] > 1, OUTSIDE);
                return f.row((int) a[1])[(int) a[2]];
            }
            case "digit": {
                return known(a[0]).read((int) a[1]);
            }
            case "shows": return known(a[0]).shown().longValueExact();
            case "set": return written(known(a[0]), a[1]);
            case "proper": return known(a[0]).proper() ? 1 : 0;
            case "size": return sizeOf(known(a[0]), (int) a[1]);
            case "meant": return meantAs(known(a[0]), (int) a[1]);
            case "asks": return asked(known(a[0]), (int) a[1]);
            case "trace": return trace;
            case "copy": return copying(known(a[0]), (int) a[1], known(a[2]), (int) a[3], (int) a[4]);
            case "copied": return copied;
            case "digest": return digested(known(a[0]));
            case "ofFloat": {
                Any f = known(a[0]);
                float v = Float.intBitsToFloat((int) a[1]);
                refuse(!(v >= 0) || v == Float.POSITIVE_INFINITY, OUTSIDE);
                return written(f, (long) v);
            }
            case "ofDouble": {
                Any f = known(a[0]);
                double v = Double.longBitsToDouble(a[1]);
                refuse(!(v >= 0) || v == Double.POSITIVE_INFINITY, OUTSIDE);
                return written(f, (long) v);
            }
            case "restFloat":
                return Float.floatToIntBits(Float.intBitsToFloat((int) a[0]) % Float.intBitsToFloat((int) a[1]));
            case "restDouble":
                return Double.doubleToLongBits(Double.longBitsToDouble(a[0]) % Double.longBitsToDouble(a[1]));
            default: return actMore(name, a);
        }
    }

    private long actMore(String name, long[] a) {
        switch (name) {
            case "add":
            case "less":
            case "times":
            case "divide":
            case "root":
            case "cube":
            case "turn": return method(name, a);
            case "part": return parts[(int) a[0]][(int) a[1]];
            case "tally": return tally[(int) a[0]][(int) a[1] - 1];
            case "steps": return steps.size();
            case "step":
                refuse(a[0] < 0 || a[0] >= steps.size(), UNKNOWN);
                refuse(a[1] < 0 || a[1] > 6, OUTSIDE);
                return steps.get((int) a[0])[(int) a[1]];
            case "stuck":
                refuse(a[0] < 0 || a[0] > 2, OUTSIDE);
                return stuckAt[(int) a[0]];
            case "undo": return undone();
            case "pupil":
                refuse(pupil.size() == 300, FULL);
                pupil.add(new int[] {(int) a[0], (int) a[1], (int) a[2], (int) a[3]});
                return pupil.size();
            case "begin": {
                int n = pupil.size();
                pupil.clear();
                return n;
            }
            case "slip": return slipAndLapse()[0];
            case "lapse": return slipAndLapse()[1];
            case "fix": return fixed();
            case "exercise": return newExercise((int) a[0], (int) a[1]);
            case "place": {
                int e = exercise(a[0]);
                refuse(a[1] < 0 || a[1] > 11, OUTSIDE);
                return blanks.get(e)[(int) a[1]] ? NONE : exercises.get(e)[(int) a[1]];
            }
            case "fillings": return ways.get(exercise(a[0]));
            case "answer": {
                int e = exercise(a[0]);
                refuse(a[1] < 0 || a[1] > 11, OUTSIDE);
                return firsts.get(e)[(int) a[1]];
            }
            case "told": return counts((int) a[0]);
            case "fault": return fault;
            default: throw new IllegalArgumentException(name);
        }
    }

    // ---- frames

    private int newFrame(int kind, int rods) {
        refuse(kind < 0 || kind > 3 || rods > (kind == 3 ? 14 : 18), OUTSIDE);
        refuse(frames.size() == 30, FULL);
        Any f = kind == 0 ? new Five(rods) : kind == 1 ? new Seven(rods) : kind == 2 ? new Ten(rods) : new Sixteen(rods);
        f.no = frames.size();
        frames.add(f);
        return f.no;
    }

    private int newTwo(Any a, Any b) {
        Set<Any> common = a.all();
        common.retainAll(b.all());
        Two f = new Two(a, b);
        refuse(a.base() != b.base() || !common.isEmpty() || f.length() > (a.base() == 16 ? 14 : 18)
                || f.deep() > 5, NO);
        refuse(frames.size() == 30, FULL);
        f.no = frames.size();
        frames.add(f);
        return f.no;
    }

    private int newRow(Any f, int i, int n) {
        refuse(n < -1 || n > (f instanceof Ten ? 1 : 2), OUTSIDE);
        ((Simple) f).rods[i] = n < 0 ? null : new int[n];
        disturbed = true;
        return 1;
    }

    private long pushed(Any f, int i, int which, long n) {
        refuse(which < 0 || which > 1, OUTSIDE);
        long then = f.row(i)[which] + n;
        refuse(then < 0 || then > f.owner(i).most()[which], NO);
        f.row(i)[which] = (int) then;
        disturbed = true;
        return then;
    }

    private int written(Any f, long v) {
        refuse(v < 0, OUTSIDE);
        String digits = v == 0 ? "" : Long.toString(v, f.base());
        refuse(digits.length() > f.length(), NO);
        f.shown();
        for (int i = 0; i < f.length(); i++) {
            int at = digits.length() - 1 - i;
            int d = at < 0 ? 0 : Character.digit(digits.charAt(at), 16);
            int[] w = f.written(i, d);
            System.arraycopy(w, 0, f.row(i), 0, w.length);
        }
        disturbed = true;
        return 1;
    }

    private int sizeOf(Any f, int what) {
        refuse(what < 0 || what > 4, OUTSIDE);
        int readable = 0;
        for (int i = 0; i < f.length(); i++) {
            readable += f.canRead(i) ? 1 : 0;
        }
        int kind = f instanceof Two ? 4 : f instanceof Ten ? 2 : f instanceof Sixteen ? 3 : f instanceof Seven ? 1 : 0;
        return new int[] {f.length(), kind, f.base(), readable, f.deep()}[what];
    }

    private int meantAs(Any f, int kind) {
        refuse(kind < 0 || kind > 4, OUTSIDE);
        Any as = kind == 0 ? (Five) f : kind == 1 ? (Seven) f : kind == 2 ? (Ten) f : kind == 3 ? (Sixteen) f : (Two) f;
        return as == null ? 0 : 1;
    }

    private int asked(Any f, int ask) {
        refuse(ask < 0 || ask > 3, OUTSIDE);
        return ask == 0 ? f.askBase() : ask == 1 ? ((Slides) f).askBeads()
                : ask == 2 ? ((Carries) f).askCarry() : ((Judges) f).askJudge();
    }

    private int copying(Any f, int i, Any t, int k, int n) {
        refuse(!(f instanceof Two) && !(t instanceof Two) && f instanceof Ten != t instanceof Ten, NO);
        int[][] from = ((Simple) f).rods;
        int[][] to = ((Simple) t).rods;
        copied = 0;
        disturbed = true;
        if (f == t) {
            int[][] by = new int[from.length][];
            for (int m = 0; m < by.length; m++) {
                by[m] = from[m] == null ? null : from[m].clone();
            }
            System.arraycopy(by, i, to, k, n);
            // arraycopy leaves rows shared by two RODS; each is to have its own.
            for (int m = 0; m < to.length; m++) {
                to[m] = to[m] == null ? null : to[m].clone();
            }
            copied = n;
            return n;
        }
        for (int m = 0; m < n; m++) {
            int[] r = from[i + m];
            to[k + m] = r == null ? null : r.clone();
            copied++;
        }
        return Math.max(0, n);
    }

    private long digested(Any f) {
        long s = 7;
        for (int i = 0; i < f.length(); i++) {
            int[] r = f.row(i);
            s = s * 31 + (r == null ? 0 : 1 + r.length);
            for (int m = 0; r != null && m < r.length; m++) {
                s = s * 31 + r[m];
            }
        }
        return s;
    }

    // ---- methods

    private long method(String name, long[] a) {
        Any f = known(a[0]);
        boolean two = List.of("divide", "root", "cube", "turn").contains(name);
        Any g = two ? known(a[1]) : null;
        long v = name.equals("divide") ? a[2] : two ? 0 : a[1];
        refuse(v < 0, OUTSIDE);
        refuse(!f.proper() || g != null && !g.proper(), NO);
        if (g != null) {
            Set<Any> common = f.all();
            common.retainAll(g.all());
            refuse(!common.isEmpty() || !name.equals("turn") && f.base() != g.base(), NO);
        }
        BigInteger x = name.equals("add") || name.equals("less") ? null : f.shown();
        if (name.equals("divide")) {
            v = v / v * v;
        }
        List<int[][]> before = snapshot();
        steps = new ArrayList<>();
        disturbed = false;
        stuckAt = new int[] {0, NONE, NONE};
        tally = new int[f.length()][];
        methodF = f.no;
        try {
            body(name, f, g, x, v);
            went++;
            standing = steps.size();
            return standing;
        } catch (Stuck s) {
            restore(before);
            stuckOnes++;
            standing = 0;
            stuckAt = new int[] {s.by, s.rod, s.frame};
            return -100 - steps.size();
        }
    }

    private void body(String name, Any f, Any g, BigInteger x, long v) {
        switch (name) {
            case "add": sum(f, BigInteger.valueOf(v), 0, 1); break;
            case "less": sum(f, BigInteger.valueOf(v), 0, -1); break;
            case "times": multiply(f, v); break;
            case "divide": quotient(f, g, x, BigInteger.valueOf(v)); break;
            case "root": rooted(f, g, x, 2); break;
            case "cube": rooted(f, g, x, 3); break;
            default:
                clear(g);
                for (int d : digits(x, f.base())) {
                    multiply(g, f.base());
                    sum(g, BigInteger.valueOf(d), 0, 1);
                }
        }
    }

    /** The highest first. */
    private static int[] digits(BigInteger n, int base) {
        String s = n.signum() == 0 ? "" : n.toString(base);
        int[] d = new int[s.length()];
        for (int i = 0; i < d.length; i++) {
            d[i] = Character.digit(s.charAt(i), base);
        }
        return d;
    }

    private int readOrStuck(Any f, int i) {
        try {
            return f.read(i);
        } catch (NullPointerException e) {
            throw new Stuck(1, i, f.no);
        } catch (IndexOutOfBoundsException e) {
            throw new Stuck(2, i, f.no);
        }
    }

    private void put(Any f, int i, int amount) {
        if (amount == 0) {
            return;
        }
        int base = f.base();
        int c = readOrStuck(f, i);
        int then = c + amount;
        int hand = 0;
        if (then >= base) {
            then -= base;
            hand = 1;
        } else if (then < 0) {
            then += base;
            hand = -1;
        }
        int[] was = f.row(i).clone();
        int[] is = f.written(i, then);
        System.arraycopy(is, 0, f.row(i), 0, is.length);
        boolean ten = f.owner(i) instanceof Ten;
        int upper = ten ? 0 : is[1] - was[1];
        int lower = is[0] - was[0];
        boolean more = upper > 0 || lower > 0;
        boolean less = upper < 0 || lower < 0;
        int reason;
        if (amount > 0) {
            reason = hand == 0 ? (less ? 2 : 1) : (more ? 4 : 3);
        } else {
            reason = hand == 0 ? (more ? 2 : 1) : (less ? 4 : 3);
        }
        steps.add(new int[] {f.no, i, upper, lower, reason, hand, amount});
        if (f.no == methodF) {
            if (tally[i] == null) {
                tally[i] = new int[4];
            }
            tally[i][reason - 1]++;
        }
        put(f, i + 1, hand);
    }

    private void sum(Any f, BigInteger v, int from, int sign) {
        int[] d = digits(v, f.base());
        for (int n = 0; n < d.length; n++) {
            put(f, from + d.length - 1 - n, sign * d[n]);
        }
    }

    private void clear(Any f) {
        for (int i = f.length() - 1; i >= 0; i--) {
            put(f, i, -readOrStuck(f, i));
        }
    }

    private void multiply(Any f, long v) {
        int[] xs = digits(f.shown(), f.base());
        int[] vs = digits(BigInteger.valueOf(v), f.base());
        parts = new long[xs.length][];
        for (int i = 0; i < xs.length; i++) {
            if (xs[xs.length - 1 - i] != 0) {
                parts[i] = new long[vs.length];
            }
        }
        clear(f);
        for (int i = xs.length - 1; i >= 0; i--) {
            int x = xs[xs.length - 1 - i];
            for (int j = vs.length - 1; x != 0 && j >= 0; j--) {
                int p = x * vs[vs.length - 1 - j];
                parts[i][j] = p;
                put(f, i + j + 1, p / f.base());
                put(f, i + j, p % f.base());
            }
        }
    }

    private void quotient(Any f, Any g, BigInteger x, BigInteger v) {
        clear(g);
        BigInteger base = BigInteger.valueOf(f.base());
        int[] vs = digits(v, f.base());
        int n = vs.length;
        for (int k = digits(x, f.base()).length - n; k >= 0; k--) {
            BigInteger r = f.shown();
            int trial = r.divide(base.pow(k + n - 1)).divide(BigInteger.valueOf(vs[0]))
                    .min(BigInteger.valueOf(f.base() - 1)).intValueExact();
            put(g, k, trial);
            while (BigInteger.valueOf(trial).multiply(v).multiply(base.pow(k)).compareTo(r) > 0) {
                put(g, k, -1);
                trial--;
            }
            for (int j = n - 1; j >= 0; j--) {
                int p = trial * vs[n - 1 - j];
                put(f, k + j + 1, -(p / f.base()));
                put(f, k + j, -(p % f.base()));
            }
        }
    }

    /** By powers of the whole root so far: (P and y)^by less P^by, not by the document's formula. */
    private void rooted(Any f, Any g, BigInteger x, int by) {
        clear(g);
        BigInteger base = BigInteger.valueOf(f.base());
        BigInteger p = BigInteger.ZERO;
        int m = digits(x, f.base()).length;
        for (int k = (m + by - 1) / by - 1; k >= 0; k--) {
            BigInteger r = f.shown();
            BigInteger bp = p.multiply(base);
            int y = 0;
            for (int t = 1; t < f.base(); t++) {
                BigInteger t1 = bp.add(BigInteger.valueOf(t)).pow(by).subtract(bp.pow(by));
                if (t1.multiply(base.pow(by * k)).compareTo(r) <= 0) {
                    y = t;
                }
            }
            put(g, k, y);
            BigInteger then = bp.add(BigInteger.valueOf(y));
            sum(f, then.pow(by).subtract(bp.pow(by)), by * k, -1);
            p = then;
        }
    }

    private List<int[][]> snapshot() {
        List<int[][]> all = new ArrayList<>();
        for (Any f : frames) {
            int[][] rows = new int[f.length()][];
            for (int i = 0; i < rows.length; i++) {
                rows[i] = f.row(i) == null ? null : f.row(i).clone();
            }
            all.add(rows);
        }
        return all;
    }

    private void restore(List<int[][]> before) {
        for (Any f : frames) {
            if (f instanceof Simple s) {
                System.arraycopy(before.get(f.no), 0, s.rods, 0, s.rods.length);
            }
        }
    }

    private int undone() {
        refuse(standing == 0 || disturbed, NO);
        standing--;
        int[] s = steps.get(standing);
        int[] r = frames.get(s[0]).row(s[1]);
        r[0] -= s[3];
        if (r.length > 1) {
            r[1] -= s[2];
        }
        return standing;
    }

    // ---- pupils, exercises

    private int[] slipAndLapse() {
        for (int k = 0;; k++) {
            boolean p = k < pupil.size();
            boolean m = k < steps.size();
            if (!p && !m) {
                return new int[] {NONE, 0};
            }
            if (!p || !m) {
                return new int[] {k, p ? 4 : 3};
            }
            int[] a = pupil.get(k);
            int[] b = steps.get(k);
            if (a[0] != b[0] || a[1] != b[1]) {
                return new int[] {k, 1};
            }
            if (a[2] != b[2] || a[3] != b[3]) {
                return new int[] {k, 2};
            }
        }
    }

    private int fixed() {
        int[] s = slipAndLapse();
        refuse(s[1] == 0, NO);
        refuse(s[1] == 3 && pupil.size() == 300, FULL);
        if (s[1] == 4) {
            pupil.subList(s[0], pupil.size()).clear();
        } else {
            int[] right = Arrays.copyOf(steps.get(s[0]), 4);
            if (s[1] == 3) {
                pupil.add(right);
            } else {
                pupil.set(s[0], right);
            }
        }
        return slipAndLapse()[0];
    }

    private int exercise(long e) {
        refuse(e < 0 || e >= exercises.size(), UNKNOWN);
        return (int) e;
    }

    private int newExercise(int kind, int seed) {
        refuse(kind < 0 || kind > 2, OUTSIDE);
        refuse(exercises.size() == 200, FULL);
        int[] s = {seed};
        int a = draw(s) % 1000;
        int b = draw(s) % 1000;
        if (kind == 1 && a < b) {
            int t = a;
            a = b;
            b = t;
        }
        int c = kind == 0 ? a + b : kind == 1 ? a - b : a * b;
        int[] d = digitsOf(String.format("%03d%03d%06d", a, b, c));
        boolean[] blank = new boolean[12];
        int many = 1 + draw(s) % 4;
        for (int n = 0; n < many; n++) {
            int p = draw(s) % 12;
            while (blank[p]) {
                p = (p + 1) % 12;
            }
            blank[p] = true;
        }
        int[] found = {0};
        int[] first = new int[12];
        fill(kind, d.clone(), blank, 0, found, first);
        exercises.add(d);
        blanks.add(blank);
        ways.add(found[0]);
        firsts.add(first);
        return exercises.size() - 1;
    }

    private static int[] digitsOf(String text) {
        return text.chars().map(ch -> ch - '0').toArray();
    }

    private static int draw(int[] s) {
        s[0] = s[0] * 1103515245 + 12345;
        return s[0] >>> 16;
    }

    /** Every BLANK by every DIGIT, c's too. */
    private static void fill(int kind, int[] d, boolean[] blank, int p, int[] found, int[] first) {
        if (p == 12) {
            int a = d[0] * 100 + d[1] * 10 + d[2];
            int b = d[3] * 100 + d[4] * 10 + d[5];
            int c = 0;
            for (int q = 6; q < 12; q++) {
                c = c * 10 + d[q];
            }
            if (c == (kind == 0 ? a + b : kind == 1 ? a - b : a * b)) {
                if (found[0] == 0) {
                    System.arraycopy(d, 0, first, 0, 12);
                }
                found[0]++;
            }
            return;
        }
        if (!blank[p]) {
            fill(kind, d, blank, p + 1, found, first);
            return;
        }
        for (int x = 0; x < 10; x++) {
            d[p] = x;
            fill(kind, d, blank, p + 1, found, first);
        }
    }

    private int counts(int what) {
        refuse(what < 0 || what > 6, OUTSIDE);
        int single = 0;
        for (int n : ways) {
            single += n == 1 ? 1 : 0;
        }
        return new int[] {frames.size(), exercises.size(), went, stuckOnes, faults, pupil.size(), single}[what];
    }
}
