import java.util.Arrays;

/**
 * A bead school: reckoning frames, beads pushed by steps with their reasons,
 * pupils held against the steps, and exercises with blanks.
 */
public final class BeadSchool {
    public static final int UNKNOWN = -1, OUTSIDE = -2, NO = -3, FULL = -4, NONE = -5;
    public static final long LOST = Long.MIN_VALUE;

    private static final int FIVE = 0, SEVEN = 1, TEN = 2, SIXTEEN = 3, DOUBLE = 4;
    private static final int NULL = 1, BEYOND = 2, CAST = 3, SIZE = 4, ZERO = 5;
    private static final int MOST_FRAMES = 30, MOST_DEEP = 5, MOST_EXERCISES = 200, MOST_PUPIL = 300;
    private static final int LOWER = 0, UPPER = 1;
    private static final int CANNOT = -1;
    private static final int STEP_WIDTH = 7, PUPIL_WIDTH = 4;
    private static final int FLOAT_WIDTH = 23, DOUBLE_WIDTH = 52;
    private static final int LONGEST_NUMBER = 64;
    private static final long GREATEST = 0x7fffffffffffffffL;

    private final Frame[] frames = new Frame[MOST_FRAMES];
    private int frameCount;
    private final Exercise[] exercises = new Exercise[MOST_EXERCISES];
    private int exerciseCount;
    private final Reckoning latest = new Reckoning();
    private int[] pupilRow = new int[PUPIL_WIDTH * 16];
    private int pupilCount;
    private int traced;
    private int came;
    private int latestFault;
    private int faultCount;

    public BeadSchool() {
    }

    // ---- 1 frames

    public int frame(int kind, int rods) {
        if (kind < FIVE || kind > SIXTEEN || rods > mostRods(baseOf(kind))) {
            return OUTSIDE;
        }
        if (frameCount >= MOST_FRAMES) {
            return FULL;
        }
        if (rods < 0) {
            return faulted(SIZE);
        }
        frames[frameCount] = new Frame(frameCount, kind, rods);
        frameCount++;
        return frameCount - 1;
    }

    public int both(int a, int b) {
        Frame first = known(a);
        Frame second = known(b);
        if (first == null || second == null) {
            return UNKNOWN;
        }
        if (first.base != second.base || (first.members & second.members) != 0
                || first.rods.length + second.rods.length > mostRods(first.base)
                || Math.max(first.deep, second.deep) >= MOST_DEEP) {
            return NO;
        }
        if (frameCount >= MOST_FRAMES) {
            return FULL;
        }
        frames[frameCount] = new Frame(frameCount, first, second);
        frameCount++;
        return frameCount - 1;
    }

    public int rod(int f, int i, int n) {
        Frame x = known(f);
        if (x == null) {
            return UNKNOWN;
        }
        if (n < -1 || n > (x.kind == TEN ? 1 : 2)) {
            return OUTSIDE;
        }
        if (x.kind == DOUBLE) {
            return faulted(CAST);
        }
        if (!x.holds(i)) {
            return faulted(BEYOND);
        }
        x.rods[i].renew(n);
        latest.disturbed = true;
        return 1;
    }

    public int push(int f, int i, int which, int n) {
        Frame x = known(f);
        if (x == null) {
            return UNKNOWN;
        }
        if (which < LOWER || which > UPPER) {
            return OUTSIDE;
        }
        int fault = x.numberFault(i, which);
        if (fault != 0) {
            return faulted(fault);
        }
        Rod r = x.rods[i];
        // A long, since the sum of two ints may wrap back into the allowed span.
        long then = (long) r.number(which) + n;
        if (then < 0 || then > r.most(which)) {
            return NO;
        }
        r.put(which, (int) then);
        latest.disturbed = true;
        return (int) then;
    }

    public int beads(int f, int i, int which) {
        Frame x = known(f);
        if (x == null) {
            return UNKNOWN;
        }
        if (which < LOWER || which > UPPER) {
            return OUTSIDE;
        }
        int fault = x.numberFault(i, which);
        return fault != 0 ? faulted(fault) : x.rods[i].number(which);
    }

    public int digit(int f, int i) {
        Frame x = known(f);
        if (x == null) {
            return UNKNOWN;
        }
        int fault = x.readFault(i);
        return fault != 0 ? faulted(fault) : x.rods[i].value();
    }

    public long shows(int f) {
        Frame x = known(f);
        if (x == null) {
            return LOST;
        }
        int fault = x.firstFault();
        return fault != 0 ? lost(fault) : x.sum();
    }

    public int set(int f, long v) {
        return writeAll(known(f), v);
    }

    public int proper(int f) {
        Frame x = known(f);
        if (x == null) {
            return UNKNOWN;
        }
        return x.allProper() ? 1 : 0;
    }

    public int size(int f, int what) {
        Frame x = known(f);
        if (x == null) {
            return UNKNOWN;
        }
        switch (what) {
            case 0:
                return x.rods.length;
            case 1:
                return x.kind;
            case 2:
                return x.base;
            case 3:
                return x.readable();
            case 4:
                return x.deep;
            default:
                return OUTSIDE;
        }
    }

    public int meant(int f, int kind) {
        Frame x = known(f);
        if (x == null) {
            return UNKNOWN;
        }
        if (kind < FIVE || kind > DOUBLE) {
            return OUTSIDE;
        }
        return isA(x.kind, kind) ? 1 : faulted(CAST);
    }

    public int asks(int f, int ask) {
        Frame x = known(f);
        if (x == null) {
            return UNKNOWN;
        }
        if (ask < 0 || ask > 3) {
            return OUTSIDE;
        }
        int said = ask == 0 ? askBase(x, 0) : ask == 1 ? askBeads(x)
                : ask == 2 ? askCarry(x, 0) : askJudge(x);
        return said < 0 ? faulted(CAST) : said;
    }

    public int trace() {
        return traced;
    }

    public int copy(int from, int i, int to, int k, int n) {
        Frame x = known(from);
        Frame y = known(to);
        if (x == null || y == null) {
            return UNKNOWN;
        }
        boolean doubled = x.kind == DOUBLE || y.kind == DOUBLE;
        if (!doubled && (x.kind == TEN) != (y.kind == TEN)) {
            return NO;
        }
        if (doubled) {
            return faulted(CAST);
        }
        latest.disturbed = true;
        if (from == to && !x.holdsAll(i, k, n)) {
            came = 0;
            return faulted(BEYOND);
        }
        came = from == to ? copyWithin(x, i, k, n) : copyAcross(x, i, y, k, n);
        return came < n ? faulted(BEYOND) : came;
    }

    public int copied() {
        return came;
    }

    public long digest(int f) {
        Frame x = known(f);
        return x == null ? LOST : x.digestSum();
    }

    // ---- 2 numbers

    public int ofFloat(int f, int bits) {
        return writeWhole(known(f), bits & 0xffffffffL, FLOAT_WIDTH);
    }

    public int ofDouble(int f, long bits) {
        return writeWhole(known(f), bits, DOUBLE_WIDTH);
    }

    public int restFloat(int a, int unit) {
        return (int) rest(a & 0xffffffffL, unit & 0xffffffffL, FLOAT_WIDTH);
    }

    public long restDouble(long a, long unit) {
        return rest(a, unit, DOUBLE_WIDTH);
    }

    // ---- 3 methods

    public int add(int f, long v) {
        return sumUp(known(f), v, 1);
    }

    public int less(int f, long v) {
        return sumUp(known(f), v, -1);
    }

    public int times(int f, long v) {
        Frame x = known(f);
        if (x == null) {
            return UNKNOWN;
        }
        int no = opened(x, null, refusalOf(x, v), false);
        return no != 0 ? no : latest.close(latest.multiply(x, v));
    }

    public int divide(int f, int g, long v) {
        Frame x = known(f);
        Frame y = known(g);
        if (x == null || y == null) {
            return UNKNOWN;
        }
        int no = opened(x, y, refusalOfTwo(x, y, v, true), v == 0);
        return no != 0 ? no : latest.close(latest.quotient(x, y, v));
    }

    public int root(int f, int g) {
        return rootBy(known(f), known(g), 2);
    }

    public int cube(int f, int g) {
        return rootBy(known(f), known(g), 3);
    }

    public int turn(int f, int g) {
        Frame x = known(f);
        Frame y = known(g);
        if (x == null || y == null) {
            return UNKNOWN;
        }
        int no = opened(x, y, refusalOfTwo(x, y, 0, false), false);
        return no != 0 ? no : latest.close(latest.turnOver(x, y));
    }

    public long part(int i, int j) {
        Parts p = latest.parts;
        int fault = p.faultAt(i, j);
        return fault != 0 ? lost(fault) : p.at(i, j);
    }

    public int tally(int i, int reason) {
        Frame x = latest.f;
        if (x == null) {
            return faulted(NULL);
        }
        if (!x.holds(i)) {
            return faulted(BEYOND);
        }
        if (latest.countOn(x.number, i, 0) == 0) {
            return faulted(NULL);
        }
        if (reason < 1 || reason > 4) {
            return faulted(BEYOND);
        }
        return latest.countOn(x.number, i, reason);
    }

    public int steps() {
        return latest.count;
    }

    public int step(int k, int what) {
        if (k < 0 || k >= latest.count) {
            return UNKNOWN;
        }
        if (what < 0 || what >= STEP_WIDTH) {
            return OUTSIDE;
        }
        return latest.tell(k, what);
    }

    public int stuck(int what) {
        switch (what) {
            case 0:
                return latest.stuckBy;
            case 1:
                return latest.stuckRod;
            case 2:
                return latest.stuckFrame;
            default:
                return OUTSIDE;
        }
    }

    public int undo() {
        if (latest.standing <= 0 || latest.disturbed) {
            return NO;
        }
        latest.standing--;
        latest.takeBack(latest.standing);
        return latest.standing;
    }

    // ---- 4 pupils, exercises

    public int pupil(int f, int i, int upper, int lower) {
        if (pupilCount >= MOST_PUPIL) {
            return FULL;
        }
        pupilCount++;
        writePupil(pupilCount - 1, f, i, upper, lower);
        return pupilCount;
    }

    public int begin() {
        int were = pupilCount;
        pupilCount = 0;
        return were;
    }

    public int slip() {
        return slipPlace();
    }

    public int lapse() {
        return lapseAt(slipPlace());
    }

    public int fix() {
        int at = slipPlace();
        int kind = lapseAt(at);
        if (kind == 0) {
            return NO;
        }
        if (kind == 4) {
            pupilCount = at;
            return slipPlace();
        }
        if (kind == 3) {
            if (pupilCount >= MOST_PUPIL) {
                return FULL;
            }
            pupilCount++;
        }
        writePupil(at, latest.tell(at, 0), latest.tell(at, 1), latest.tell(at, 2), latest.tell(at, 3));
        return slipPlace();
    }

    public int exercise(int kind, int seed) {
        if (kind < 0 || kind > 2) {
            return OUTSIDE;
        }
        if (exerciseCount >= MOST_EXERCISES) {
            return FULL;
        }
        Exercise e = new Exercise(kind);
        e.draw(seed);
        e.solve();
        exercises[exerciseCount] = e;
        exerciseCount++;
        return exerciseCount - 1;
    }

    public int place(int e, int p) {
        Exercise x = knownExercise(e);
        if (x == null) {
            return UNKNOWN;
        }
        if (p < 0 || p >= Exercise.PLACES) {
            return OUTSIDE;
        }
        return x.isBlank(p) ? NONE : x.digits[p];
    }

    public int fillings(int e) {
        Exercise x = knownExercise(e);
        return x == null ? UNKNOWN : x.ways;
    }

    public int answer(int e, int p) {
        Exercise x = knownExercise(e);
        if (x == null) {
            return UNKNOWN;
        }
        return p < 0 || p >= Exercise.PLACES ? OUTSIDE : x.digits[p];
    }

    public int told(int what) {
        switch (what) {
            case 0:
                return frameCount;
            case 1:
                return exerciseCount;
            case 2:
                return latest.wentThrough;
            case 3:
                return latest.gotStuck;
            case 4:
                return faultCount;
            case 5:
                return pupilCount;
            case 6:
                return singleExercises();
            default:
                return OUTSIDE;
        }
    }

    public int fault() {
        return latestFault;
    }

    // ---- what the calls share

    private Frame known(int f) {
        return f < 0 || f >= frameCount ? null : frames[f];
    }

    private Exercise knownExercise(int e) {
        return e < 0 || e >= exerciseCount ? null : exercises[e];
    }

    private int faulted(int kind) {
        latestFault = kind;
        faultCount++;
        return -10 - kind;
    }

    private long lost(int kind) {
        faulted(kind);
        return LOST;
    }

    private static int baseOf(int kind) {
        return kind == SIXTEEN ? 16 : 10;
    }

    private static int mostRods(int base) {
        return base == 16 ? 14 : 18;
    }

    private static boolean isA(int own, int kind) {
        return own == kind || own == SEVEN && kind == FIVE
                || own == SIXTEEN && (kind == SEVEN || kind == FIVE);
    }

    private int writeAll(Frame x, long v) {
        if (x == null) {
            return UNKNOWN;
        }
        if (v < 0) {
            return OUTSIDE;
        }
        if (digitCount(v, x.base) > x.rods.length) {
            return NO;
        }
        int fault = x.firstFault();
        if (fault != 0) {
            return faulted(fault);
        }
        x.writeNumber(v);
        latest.disturbed = true;
        return 1;
    }

    private static int copyWithin(Frame x, int i, int k, int n) {
        for (int m = 0; m < n; m++) {
            // Away from the overlap, so that no ROD is read after it was written.
            int at = k <= i ? m : n - 1 - m;
            x.rods[k + at].become(x.rods[i + at]);
        }
        return n;
    }

    private static int copyAcross(Frame x, int i, Frame y, int k, int n) {
        for (int m = 0; m < n; m++) {
            if (!x.holds(i + m) || !y.holds(k + m)) {
                return m;
            }
            y.rods[k + m].become(x.rods[i + m]);
        }
        return Math.max(n, 0);
    }

    private static int refusalOf(Frame x, long v) {
        if (v < 0) {
            return OUTSIDE;
        }
        return x.allProper() ? 0 : NO;
    }

    private static int refusalOfTwo(Frame x, Frame y, long v, boolean oneBase) {
        if (v < 0) {
            return OUTSIDE;
        }
        boolean bad = !x.allProper() || !y.allProper() || (x.members & y.members) != 0
                || oneBase && x.base != y.base;
        return bad ? NO : 0;
    }

    // 0: the METHOD is open, and f can be read; else what the call answers.
    private int opened(Frame x, Frame y, int refusal, boolean byZero) {
        if (refusal != 0) {
            return refusal;
        }
        int fault = x.firstFault();
        if (fault == 0 && byZero) {
            fault = ZERO;
        }
        if (fault != 0) {
            return faulted(fault);
        }
        latest.open(x, y);
        return 0;
    }

    // SUM and LESS read no X: a ROD that can't be read matters only where they come to it.
    private int sumUp(Frame x, long v, int sign) {
        if (x == null) {
            return UNKNOWN;
        }
        int no = refusalOf(x, v);
        if (no != 0) {
            return no;
        }
        latest.open(x, null);
        return latest.close(latest.putDigits(x, v, 0, sign));
    }

    private int rootBy(Frame x, Frame y, int by) {
        if (x == null || y == null) {
            return UNKNOWN;
        }
        int no = opened(x, y, refusalOfTwo(x, y, 0, true), false);
        return no != 0 ? no : latest.close(latest.extract(x, y, by));
    }

    // ---- the bodies of the ASKS; CANNOT is a CAST, and no answer is below 0

    private void begun(int body) {
        traced = 31 * traced + body;
    }

    private int askBase(Frame x, int depth) {
        if (x.kind == DOUBLE) {
            begun(3);
            Frame first = x.first;
            return first == null || depth > MOST_DEEP ? CANNOT : askBase(first, depth + 1);
        }
        if (x.kind == SIXTEEN) {
            begun(2);
            return 16;
        }
        begun(1);
        return 10;
    }

    private int askBeads(Frame x) {
        if (x.kind == DOUBLE) {
            return CANNOT;
        }
        if (x.kind == TEN) {
            begun(6);
            return 10;
        }
        if (x.kind == FIVE) {
            begun(4);
            return 5;
        }
        begun(5);
        begun(4);
        return 5 + 2;
    }

    private int askCarry(Frame x, int depth) {
        if (x.kind == TEN) {
            return CANNOT;
        }
        if (x.kind == FIVE) {
            begun(7);
            return askBase(x, depth) - 1;
        }
        if (x.kind != DOUBLE) {
            begun(8);
            return 5 + askBeads(x);
        }
        begun(9);
        Frame first = x.first;
        Frame second = x.second;
        if (first == null || second == null || depth > MOST_DEEP) {
            return CANNOT;
        }
        int one = askCarry(first, depth + 1);
        if (one < 0) {
            return one;
        }
        int other = askCarry(second, depth + 1);
        return other < 0 ? other : one + other;
    }

    private int askJudge(Frame x) {
        if (x.kind == DOUBLE || x.kind == TEN) {
            return CANNOT;
        }
        int said = x.rods.length;
        if (x.kind == SIXTEEN) {
            begun(12);
        }
        if (x.kind != FIVE) {
            begun(11);
            said = 2 * said;
        }
        begun(10);
        return x.kind == SIXTEEN ? said + 1 : said;
    }

    // ---- numbers

    private static int digitCount(long v, int base) {
        if (base <= 1) {
            return 0;
        }
        long left = v;
        int n = 0;
        while (n < LONGEST_NUMBER && left > 0) {
            left /= base;
            n++;
        }
        return n;
    }

    private static int digitAt(long v, int base, int i) {
        if (base <= 1) {
            return 0;
        }
        long left = v;
        for (int n = 0; n < i; n++) {
            left /= base;
        }
        return (int) (left % base);
    }

    private static long power(int base, int n) {
        long p = 1;
        for (int m = 0; m < n; m++) {
            p *= base;
        }
        return p;
    }

    // Floats and doubles are kept as bits: width is that of the fraction.

    private static int endlessField(int width) {
        return width == FLOAT_WIDTH ? 255 : 2047;
    }

    private static int exponentField(long bits, int width) {
        return (int) (bits >>> width) & endlessField(width);
    }

    private static long fraction(long bits, int width) {
        return bits & (1L << width) - 1;
    }

    private static long significand(long bits, int width) {
        long f = fraction(bits, width);
        return exponentField(bits, width) == 0 ? f : f | 1L << width;
    }

    private static long signBit(long bits, int width) {
        return bits & (width == FLOAT_WIDTH ? 1L << 31 : 1L << 63);
    }

    private int writeWhole(Frame x, long bits, int width) {
        if (x == null) {
            return UNKNOWN;
        }
        int field = exponentField(bits, width);
        long s = significand(bits, width);
        if (field == endlessField(width) || signBit(bits, width) != 0 && s != 0) {
            return OUTSIDE;
        }
        int bias = endlessField(width) / 2;
        return writeAll(x, shifted(s, Math.max(field, 1) - bias - width));
    }

    // As a cast to a long does it: cut off below, held at the greatest long above.
    private static long shifted(long s, int by) {
        if (s == 0 || by <= -64) {
            return 0;
        }
        if (by <= 0) {
            return s >>> -by;
        }
        return by > 62 || s > GREATEST >> by ? GREATEST : s << by;
    }

    private static long rest(long a, long unit, int width) {
        long noNumber = width == FLOAT_WIDTH ? 2143289344L : 9221120237041090560L;
        int endless = endlessField(width);
        long by = significand(unit, width);
        if (exponentField(a, width) == endless || by == 0) {
            return noNumber;
        }
        if (exponentField(unit, width) == endless) {
            return fraction(unit, width) == 0 ? a : noNumber;
        }
        int high = Math.max(exponentField(a, width), 1);
        int low = Math.max(exponentField(unit, width), 1);
        if (high < low) {
            return a;
        }
        long r = significand(a, width) % by;
        for (int left = high - low; left > 0; left -= 10) {
            // Ten bits at a time: 53 and 10 still fit a long.
            r = (r << Math.min(left, 10)) % by;
        }
        return signBit(a, width) | packed(r, low, width);
    }

    private static long packed(long r, int field, int width) {
        long s = r;
        int e = field;
        for (int n = 0; n < width && e > 1 && s < 1L << width; n++) {
            s <<= 1;
            e--;
        }
        // Zero and what stays below the first bit have the field 0.
        return s < 1L << width ? s : (long) e << width | fraction(s, width);
    }

    // ---- pupils, exercises

    private void writePupil(int k, int f, int i, int upper, int lower) {
        int at = PUPIL_WIDTH * k;
        if (at + PUPIL_WIDTH > pupilRow.length) {
            pupilRow = Arrays.copyOf(pupilRow, 2 * pupilRow.length);
        }
        pupilRow[at] = f;
        pupilRow[at + 1] = i;
        pupilRow[at + 2] = upper;
        pupilRow[at + 3] = lower;
    }

    private boolean alike(int k, int what) {
        return pupilRow[PUPIL_WIDTH * k + what] == latest.tell(k, what);
    }

    private int slipPlace() {
        int shared = Math.min(pupilCount, latest.count);
        for (int k = 0; k < shared; k++) {
            if (!(alike(k, 0) && alike(k, 1) && alike(k, 2) && alike(k, 3))) {
                return k;
            }
        }
        return pupilCount == latest.count ? NONE : shared;
    }

    private int lapseAt(int k) {
        if (k < 0) {
            return 0;
        }
        if (k >= pupilCount) {
            return 3;
        }
        if (k >= latest.count) {
            return 4;
        }
        return alike(k, 0) && alike(k, 1) ? 2 : 1;
    }

    private int singleExercises() {
        int n = 0;
        for (int e = 0; e < exerciseCount; e++) {
            Exercise x = knownExercise(e);
            if (x != null && x.ways == 1) {
                n++;
            }
        }
        return n;
    }

    /** A place for a row of numbers: the row may be missing (-1 numbers) or cut short. */
    private static final class Rod {
        private final boolean ten;
        private final int needed;
        private final int mostLower;
        private final int mostUpper;
        private int numbers;
        private int lower;
        private int upper;

        Rod(int kind) {
            ten = kind == TEN;
            mostLower = ten ? 10 : kind == FIVE ? 4 : 5;
            mostUpper = ten ? 0 : kind == FIVE ? 1 : 2;
            needed = ten ? 1 : 2;
            numbers = needed;
        }

        void renew(int n) {
            numbers = n;
            lower = 0;
            upper = 0;
        }

        void become(Rod other) {
            numbers = other.numbers;
            lower = other.lower;
            upper = other.upper;
        }

        int readFault() {
            return numbers < 0 ? NULL : numbers < needed ? BEYOND : 0;
        }

        int numberFault(int which) {
            return numbers < 0 ? NULL : which >= numbers ? BEYOND : 0;
        }

        int number(int which) {
            return which == LOWER ? lower : upper;
        }

        int most(int which) {
            return which == LOWER ? mostLower : mostUpper;
        }

        void put(int which, int n) {
            if (which == LOWER) {
                lower = n;
            } else {
                upper = n;
            }
        }

        int value() {
            return lower + 5 * upper;
        }

        int writtenUpper(int d) {
            return ten ? 0 : d < 10 ? d / 5 : 2;
        }

        void write(int d) {
            upper = writtenUpper(d);
            lower = d - 5 * upper;
        }

        boolean isProper(int base) {
            int d = value();
            return d < base && upper == writtenUpper(d);
        }

        long digestOn(long sum) {
            long s = 31 * sum + (numbers < 0 ? 0 : 1 + numbers);
            if (numbers > 0) {
                s = 31 * s + lower;
            }
            return numbers > 1 ? 31 * s + upper : s;
        }
    }

    /** A FRAME of any kind; a DOUBLE has its parts' very RODS. */
    private static final class Frame {
        private final int number;
        private final int kind;
        private final int base;
        private final int deep;
        private final int members;
        private final Rod[] rods;
        private final Frame first;
        private final Frame second;

        Frame(int number, int kind, int length) {
            this.number = number;
            this.kind = kind;
            base = baseOf(kind);
            deep = 0;
            members = 1 << number;
            rods = new Rod[Math.max(length, 0)];
            for (int i = 0; i < rods.length; i++) {
                rods[i] = new Rod(kind);
            }
            first = null;
            second = null;
        }

        Frame(int number, Frame first, Frame second) {
            this.number = number;
            kind = DOUBLE;
            base = first.base;
            deep = 1 + Math.max(first.deep, second.deep);
            members = first.members | second.members | 1 << number;
            int low = second.rods.length;
            rods = new Rod[low + first.rods.length];
            for (int i = 0; i < rods.length; i++) {
                rods[i] = i < low ? second.rods[i] : first.rods[i - low];
            }
            this.first = first;
            this.second = second;
        }

        boolean holds(int i) {
            return i >= 0 && i < rods.length;
        }

        // Differences, not sums: i + n could wrap.
        boolean holdsAll(int i, int k, int n) {
            int most = rods.length;
            return n >= 0 && n <= most && i >= 0 && i <= most - n && k >= 0 && k <= most - n;
        }

        int readFault(int i) {
            return holds(i) ? rods[i].readFault() : BEYOND;
        }

        int numberFault(int i, int which) {
            return holds(i) ? rods[i].numberFault(which) : BEYOND;
        }

        int firstFault() {
            for (int i = 0; i < rods.length; i++) {
                int fault = rods[i].readFault();
                if (fault != 0) {
                    return fault;
                }
            }
            return 0;
        }

        long sum() {
            long s = 0;
            for (int i = rods.length - 1; i >= 0; i--) {
                s = s * base + rods[i].value();
            }
            return s;
        }

        void writeNumber(long v) {
            for (int i = 0; i < rods.length; i++) {
                rods[i].write(digitAt(v, base, i));
            }
        }

        boolean allProper() {
            for (int i = 0; i < rods.length; i++) {
                if (rods[i].readFault() == 0 && !rods[i].isProper(base)) {
                    return false;
                }
            }
            return true;
        }

        int readable() {
            int n = 0;
            for (int i = 0; i < rods.length; i++) {
                if (rods[i].readFault() == 0) {
                    n++;
                }
            }
            return n;
        }

        long digestSum() {
            long s = 7;
            for (int i = 0; i < rods.length; i++) {
                s = rods[i].digestOn(s);
            }
            return s;
        }
    }

    /** THE PARTS of the latest TIMES: how far it came is enough to tell each of them. */
    private static final class Parts {
        private int base;
        private long x;
        private long v;
        private int lastI;
        private int lastJ;

        void open(int toBase, long ofX, long ofV) {
            base = toBase;
            x = ofX;
            v = ofV;
            // Above any DIGIT: nothing has been come to.
            lastI = LONGEST_NUMBER;
            lastJ = LONGEST_NUMBER;
        }

        void comeTo(int i, int j) {
            lastI = i;
            lastJ = j;
        }

        int faultAt(int i, int j) {
            if (base == 0) {
                return NULL;
            }
            if (i < 0 || i >= digitCount(x, base)) {
                return BEYOND;
            }
            if (digitAt(x, base, i) == 0) {
                return NULL;
            }
            return j < 0 || j >= digitCount(v, base) ? BEYOND : 0;
        }

        long at(int i, int j) {
            if (base == 0) {
                return 0;
            }
            boolean come = i > lastI || i == lastI && j >= lastJ;
            return come ? digitAt(x, base, i) * digitAt(v, base, j) : 0;
        }
    }

    /** The latest METHOD: it makes the STEPS and keeps their row, which later ones use again. */
    private static final class Reckoning {
        private static final int HALT = 99;

        private final Parts parts = new Parts();
        private int[] row = new int[STEP_WIDTH * 32];
        private int count;
        private int standing;
        private boolean disturbed;
        private Frame f;
        private Frame g;
        private int stuckBy;
        private int stuckRod = NONE;
        private int stuckFrame = NONE;
        private int wentThrough;
        private int gotStuck;

        void open(Frame one, Frame other) {
            f = one;
            g = other;
            count = 0;
            standing = 0;
            disturbed = false;
            stuckBy = 0;
            stuckRod = NONE;
            stuckFrame = NONE;
        }

        int close(boolean through) {
            if (through) {
                standing = count;
                wentThrough++;
                return count;
            }
            for (int k = count - 1; k >= 0; k--) {
                takeBack(k);
            }
            gotStuck++;
            return -100 - count;
        }

        int tell(int k, int what) {
            return row[STEP_WIDTH * k + what];
        }

        int countOn(int frame, int i, int reason) {
            int n = 0;
            for (int k = 0; k < count; k++) {
                if (tell(k, 0) == frame && tell(k, 1) == i && (reason == 0 || tell(k, 4) == reason)) {
                    n++;
                }
            }
            return n;
        }

        void takeBack(int k) {
            Frame x = f != null && f.number == tell(k, 0) ? f : g;
            int i = tell(k, 1);
            if (x != null && x.holds(i)) {
                Rod r = x.rods[i];
                r.upper -= tell(k, 2);
                r.lower -= tell(k, 3);
            }
        }

        // What STUCK is told by are the very numbers of the FAULTS of reading.
        private boolean canRead(Frame x, int i) {
            int fault = x.holds(i) ? x.rods[i].readFault() : BEYOND;
            if (fault != 0) {
                stuckBy = fault;
                stuckRod = i;
                stuckFrame = x.number;
            }
            return fault == 0;
        }

        // Answers what is IN HAND behind the STEP; amount below 0 is TAKEN.
        private int oneStep(Frame x, int i, int amount) {
            if (!canRead(x, i)) {
                return HALT;
            }
            Rod r = x.rods[i];
            int upper = r.upper;
            int lower = r.lower;
            int d = r.value() + amount;
            int hand = d >= x.base ? 1 : d < 0 ? -1 : 0;
            r.write(d - hand * x.base);
            int at = STEP_WIDTH * count;
            if (at + STEP_WIDTH > row.length) {
                row = Arrays.copyOf(row, 2 * row.length);
            }
            row[at] = x.number;
            row[at + 1] = i;
            row[at + 2] = r.upper - upper;
            row[at + 3] = r.lower - lower;
            row[at + 4] = reasonFor(amount, hand, r.upper - upper, r.lower - lower);
            row[at + 5] = hand;
            row[at + 6] = amount;
            count++;
            return hand;
        }

        private static int reasonFor(int amount, int hand, int upper, int lower) {
            // What is TAKEN is judged as the mirror of what is ADDED.
            int u = amount < 0 ? -upper : upper;
            int l = amount < 0 ? -lower : lower;
            if (hand == 0) {
                return u >= 0 && l >= 0 ? 1 : 2;
            }
            return u <= 0 && l <= 0 ? 3 : 4;
        }

        private boolean put(Frame x, int i, int amount) {
            int hand = amount;
            for (int n = 0; n < LONGEST_NUMBER && hand != 0; n++) {
                hand = oneStep(x, i + n, hand);
                if (hand == HALT) {
                    return false;
                }
            }
            return true;
        }

        boolean putDigits(Frame x, long v, int from, int sign) {
            for (int j = digitCount(v, x.base) - 1; j >= 0; j--) {
                if (!put(x, from + j, sign * digitAt(v, x.base, j))) {
                    return false;
                }
            }
            return true;
        }

        private boolean clear(Frame x) {
            for (int i = x.rods.length - 1; i >= 0; i--) {
                if (!canRead(x, i) || !put(x, i, -x.rods[i].value())) {
                    return false;
                }
            }
            return true;
        }

        boolean multiply(Frame x, long v) {
            long shown = x.sum();
            int n = digitCount(v, x.base);
            parts.open(x.base, shown, v);
            if (!clear(x)) {
                return false;
            }
            for (int i = digitCount(shown, x.base) - 1; i >= 0; i--) {
                int a = digitAt(shown, x.base, i);
                for (int j = n - 1; j >= 0 && a != 0; j--) {
                    parts.comeTo(i, j);
                    int product = a * digitAt(v, x.base, j);
                    if (!put(x, i + j + 1, digitAt(product, x.base, 1))
                            || !put(x, i + j, digitAt(product, x.base, 0))) {
                        return false;
                    }
                }
            }
            return true;
        }

        boolean quotient(Frame x, Frame y, long v) {
            int n = digitCount(v, x.base);
            int top = digitCount(x.sum(), x.base) - n;
            if (!clear(y)) {
                return false;
            }
            for (int k = top; k >= 0; k--) {
                long shown = x.sum();
                int trial = firstTrial(shown, x.base, digitAt(v, x.base, n - 1), k + n - 1);
                if (!put(y, k, trial)) {
                    return false;
                }
                long unit = v * power(x.base, k);
                for (; trial > 0 && trial * unit > shown; trial--) {
                    if (!put(y, k, -1)) {
                        return false;
                    }
                }
                if (!takeProducts(x, v, k, trial)) {
                    return false;
                }
            }
            return true;
        }

        private static int firstTrial(long shown, int base, int highest, int at) {
            long unit = power(base, at);
            return unit <= 0 || highest <= 0 ? 0 : (int) Math.min(shown / unit / highest, base - 1);
        }

        private boolean takeProducts(Frame x, long v, int k, int trial) {
            for (int j = digitCount(v, x.base) - 1; j >= 0; j--) {
                int product = trial * digitAt(v, x.base, j);
                if (!put(x, k + j + 1, -digitAt(product, x.base, 1))
                        || !put(x, k + j, -digitAt(product, x.base, 0))) {
                    return false;
                }
            }
            return true;
        }

        // What a further DIGIT y of a root takes, behind the DIGITS p.
        private static long taken(int by, long base, long p, long y) {
            return by == 2 ? (2 * base * p + y) * y
                    : (3 * base * base * p * p + 3 * base * p * y + y * y) * y;
        }

        boolean extract(Frame x, Frame y, int by) {
            if (by < 2) {
                return false;
            }
            int top = (digitCount(x.sum(), x.base) + by - 1) / by - 1;
            if (!clear(y)) {
                return false;
            }
            long p = 0;
            for (int k = top; k >= 0; k--) {
                long shown = x.sum();
                long unit = power(x.base, by * k);
                int d = x.base - 1;
                while (d > 0 && taken(by, x.base, p, d) * unit > shown) {
                    d--;
                }
                if (!put(y, k, d) || !putDigits(x, taken(by, x.base, p, d), by * k, -1)) {
                    return false;
                }
                p = x.base * p + d;
            }
            return true;
        }

        boolean turnOver(Frame x, Frame y) {
            long shown = x.sum();
            if (!clear(y)) {
                return false;
            }
            for (int i = digitCount(shown, x.base) - 1; i >= 0; i--) {
                if (!multiply(y, x.base) || !putDigits(y, digitAt(shown, x.base, i), 0, 1)) {
                    return false;
                }
            }
            return true;
        }
    }

    /** An EXERCISE; solved, its digits are those of THE FIRST FILLING. */
    private static final class Exercise {
        private static final int PLACES = 12;
        private static final int GIVEN = 6;
        // a and b as one number, a in front.
        private static final int[] WEIGHTS = {100000, 10000, 1000, 100, 10, 1};

        private final int kind;
        private final int[] digits = new int[PLACES];
        private int blanks;
        private int ways;
        private int first = -1;

        Exercise(int kind) {
            this.kind = kind;
        }

        void draw(int seed) {
            int s = next(seed);
            int one = drawn(s, 1000);
            s = next(s);
            int other = drawn(s, 1000);
            int a = kind == 1 ? Math.max(one, other) : one;
            int b = kind == 1 ? Math.min(one, other) : other;
            spread(a, b, result(kind, a, b), digits);
            s = next(s);
            int many = 1 + drawn(s, 4);
            for (int n = 0; n < many; n++) {
                s = next(s);
                blanks |= 1 << freePlace(blanks, drawn(s, PLACES));
            }
        }

        private static int next(int s) {
            return 1103515245 * s + 12345;
        }

        private static int drawn(int s, int modulo) {
            return modulo <= 0 ? 0 : (s >>> 16) % modulo;
        }

        private static int freePlace(int taken, int from) {
            int p = from;
            for (int n = 0; n < PLACES && (taken >> p & 1) != 0; n++) {
                p = p + 1 < PLACES ? p + 1 : 0;
            }
            return p;
        }

        // Below 0: there is none.
        private static int result(int kind, int a, int b) {
            return kind == 0 ? a + b : kind == 1 ? a - b : a * b;
        }

        private static void spread(int a, int b, int c, int[] to) {
            if (to.length < PLACES) {
                return;
            }
            int left = c;
            for (int p = PLACES - 1; p >= GIVEN; p--) {
                to[p] = left % 10;
                left /= 10;
            }
            for (int p = 0; p < 3; p++) {
                to[p] = digitAt(a, 10, 2 - p);
                to[p + 3] = digitAt(b, 10, 2 - p);
            }
        }

        boolean isBlank(int p) {
            return (blanks >> p & 1) != 0;
        }

        private boolean fits(int c) {
            int left = c;
            for (int p = PLACES - 1; p >= GIVEN; p--) {
                if (!isBlank(p) && digits[p] != left % 10) {
                    return false;
                }
                left /= 10;
            }
            return c >= 0;
        }

        void solve() {
            tryFrom(0, 0);
            if (first >= 0) {
                spread(first / 1000, first % 1000, result(kind, first / 1000, first % 1000), digits);
            }
        }

        // c follows from a and b, so only their BLANKS are tried, in the order of THE FIRST.
        private void tryFrom(int p, int both) {
            if (p < 0 || p >= GIVEN) {
                note(both);
                return;
            }
            int least = isBlank(p) ? 0 : digits[p];
            int most = isBlank(p) ? 9 : digits[p];
            for (int d = least; d <= most; d++) {
                tryFrom(p + 1, both + WEIGHTS[p] * d);
            }
        }

        private void note(int both) {
            if (fits(result(kind, both / 1000, both % 1000))) {
                first = first < 0 ? both : first;
                ways++;
            }
        }
    }
}
