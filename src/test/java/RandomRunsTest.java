import java.util.ArrayList;
import java.util.List;
import java.util.Random;

/** Drawn runs of 512 calls on new objects, held against Oracle call by call (all promises). */
public final class RandomRunsTest {
    private final Random random;
    private final Oracle oracle = new Oracle();
    private final BeadSchool school = new BeadSchool();
    private final Check check;
    private final List<String> log = new ArrayList<>();
    private final boolean whole;

    private RandomRunsTest(long seed, Check check) {
        random = new Random(seed);
        this.check = check;
        // Half of the runs keep their RODS whole, so that METHODS go far.
        whole = random.nextBoolean();
    }

    public static void main(String[] args) {
        int runs = args.length > 0 ? Integer.parseInt(args[0]) : 3000;
        Check check = new Check("random runs");
        for (int seed = 0; seed < runs && check.wrong() == 0; seed++) {
            new RandomRunsTest(seed, check).run(seed);
        }
        check.end();
    }

    private void run(int seed) {
        int start = 2 + random.nextInt(6);
        for (int n = 0; n < start; n++) {
            one("frame", new long[] {random.nextInt(4), random.nextInt(3) == 0 ? 14 : random.nextInt(15)});
        }
        for (int n = start; n < 440 && check.wrong() == 0; n++) {
            drawn();
        }
        for (int f = 0; f < 30 && check.wrong() == 0; f++) {
            one("digest", new long[] {f});
        }
        for (int n = 0; n < 7; n++) {
            one("told", new long[] {n});
        }
        if (check.wrong() != 0) {
            System.out.println("seed " + seed + ":");
            for (String line : log.subList(Math.max(0, log.size() - 60), log.size())) {
                System.out.println("  " + line);
            }
        }
    }

    private void one(String name, long[] a) {
        StringBuilder text = new StringBuilder(name);
        for (long n : a) {
            text.append(' ').append(n);
        }
        long want = oracle.call(name, a);
        long got = Calls.of(school, name, a);
        log.add(text + " -> " + got);
        check.due(text.toString(), got, want);
    }

    private void drawn() {
        String call = Calls.FACE[random.nextInt(Calls.FACE.length)];
        String name = call.substring(0, call.indexOf(':'));
        if ((name.equals("frame") || name.equals("both")) && random.nextInt(3) > 0) {
            name = "set";
            call = "set:fv";
        }
        if (whole && random.nextInt(12) > 0 && (name.equals("rod") || name.equals("push") || name.equals("copy"))) {
            name = "turn";
            call = "turn:ff";
        }
        String kinds = call.substring(call.indexOf(':') + 1);
        long[] a = new long[kinds.length()];
        for (int n = 0; n < a.length; n++) {
            a[n] = random.nextInt(150) == 0 ? wild() : argument(kinds.charAt(n));
        }
        for (int n = 0; n < a.length; n++) {
            if ("vD".indexOf(kinds.charAt(n)) < 0) {
                a[n] = (int) a[n];
            }
        }
        one(name, a);
    }

    private long wild() {
        long[] odd = {Integer.MIN_VALUE, Integer.MAX_VALUE, -1, -2, 0, 18, 19, 30, 200, 300, Long.MAX_VALUE, Long.MIN_VALUE};
        return odd[random.nextInt(odd.length)];
    }

    private long argument(char kind) {
        int frames = (int) oracle.call("told", new long[] {0});
        switch (kind) {
            case 'k': return random.nextInt(4);
            case 'r': return random.nextInt(19);
            case 'f': return random.nextInt(frames + (random.nextInt(10) == 0 ? 1 : 0));
            case 'i': return random.nextInt(random.nextBoolean() ? 4 : 16) - (random.nextInt(20) == 0 ? 1 : 0);
            case 'j': return random.nextInt(random.nextBoolean() ? 2 : 6);
            case 'n': return random.nextInt(3) == 0 ? random.nextInt(3) - 1 : 2;
            case 'w': return random.nextInt(2);
            case 'b': return random.nextInt(5) - 2;
            case 'm': return random.nextInt(8) - 1;
            case 'v': return number();
            case 'F': return floatBits();
            case 'D': return doubleBits();
            case 'S': return random.nextInt();
            case 's': return random.nextInt(random.nextBoolean() ? 12 : 1 + (int) oracle.call("steps", new long[0]));
            case 'e': return random.nextInt(1 + (int) oracle.call("told", new long[] {1}));
            case 'p': return random.nextInt(12);
            default: return random.nextInt(kind - '0') - (random.nextInt(30) == 0 ? 1 : 0)
                    + (random.nextInt(30) == 0 ? 1 : 0);
        }
    }

    private long number() {
        int shape = random.nextInt(8);
        if (shape == 0) {
            return random.nextInt(3);
        }
        if (shape == 1) {
            return Math.round(Math.pow(10, random.nextInt(19))) - random.nextInt(2);
        }
        if (shape == 2) {
            return 1L << random.nextInt(60);
        }
        return (random.nextLong() & Long.MAX_VALUE) >>> random.nextInt(63);
    }

    private int floatBits() {
        int shape = random.nextInt(6);
        if (shape == 0) {
            return random.nextInt();
        }
        if (shape == 1) {
            int[] odd = {0, 1, Integer.MIN_VALUE, 0x7f800000, 0xff800000, 0x7fc00000, 0x7f800001, 0x007fffff, 0x00800000, 0x7f7fffff};
            return odd[random.nextInt(odd.length)];
        }
        return Float.floatToIntBits((float) (number() / Math.pow(2, random.nextInt(8))) * (random.nextInt(8) == 0 ? -1 : 1));
    }

    private long doubleBits() {
        int shape = random.nextInt(6);
        if (shape == 0) {
            return random.nextLong();
        }
        if (shape == 1) {
            long[] odd = {0, 1, Long.MIN_VALUE, 0x7ff0000000000000L, 0xfff0000000000000L, 0x7ff8000000000000L,
                0x7ff0000000000001L, 0x000fffffffffffffL, 0x0010000000000000L, 0x7fefffffffffffffL};
            return odd[random.nextInt(odd.length)];
        }
        return Double.doubleToLongBits(number() / Math.pow(2, random.nextInt(8)) * (random.nextInt(8) == 0 ? -1 : 1));
    }
}
