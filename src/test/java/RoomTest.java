import java.lang.management.ManagementFactory;
import java.util.Random;

/** What runs allocate: all calls of one run share one room, so rows must be used again. */
public final class RoomTest {
    private static final Check check = new Check("room");
    private static final com.sun.management.ThreadMXBean BEAN =
            (com.sun.management.ThreadMXBean) ManagementFactory.getThreadMXBean();

    private RoomTest() {
    }

    public static void main(String[] args) {
        // Each is run twice: what the machine itself makes for a first call is none of the class's.
        for (int time = 0; time < 2; time++) {
            boolean counts = time == 1;
            atMost(counts, "a new object", 8_000, () -> new BeadSchool());
            atMost(counts, "512 calls with the longest methods", 200_000, RoomTest::longMethods);
            atMost(counts, "every frame, exercise and pupil's step", 200_000, RoomTest::everything);
        }
        beyondTheLastCall();
        check.end();
    }

    /** What a call answers behind the 512th is free, but none may throw. */
    private static void beyondTheLastCall() {
        BeadSchool x = new BeadSchool();
        Random random = new Random(512);
        for (int n = 0; n < 20_000; n++) {
            String call = Calls.FACE[random.nextInt(Calls.FACE.length)];
            long[] a = new long[call.length() - call.indexOf(':') - 1];
            for (int k = 0; k < a.length; k++) {
                a[k] = random.nextInt(9) == 0 ? random.nextLong() : random.nextInt(12) - 1;
            }
            Calls.of(x, call.substring(0, call.indexOf(':')), a);
        }
        check.holds("all frames and all of a pupil's steps are still told of", x.told(0) <= 30 && x.told(5) <= 300);
    }

    private static void atMost(boolean counts, String what, long bytes, Runnable run) {
        long id = Thread.currentThread().getId();
        long before = BEAN.getThreadAllocatedBytes(id);
        run.run();
        long made = BEAN.getThreadAllocatedBytes(id) - before;
        if (counts) {
            System.out.println("room: " + what + ": " + made + " bytes");
            check.holds(what + " made " + made + " bytes", made <= bytes);
        }
    }

    private static void longMethods() {
        BeadSchool x = new BeadSchool();
        x.frame(3, 14);
        x.frame(0, 18);
        x.set(0, 58786930615020180L);
        for (int n = 0; n < 250; n++) {
            x.turn(0, 1);
            x.part(1, 1);
        }
    }

    private static void everything() {
        BeadSchool x = new BeadSchool();
        for (int n = 0; n < 30; n++) {
            x.frame(0, 18);
        }
        for (int n = 0; n < 200; n++) {
            x.exercise(n % 3, n);
        }
        for (int n = 0; n < 280; n++) {
            x.pupil(n, n, n, n);
        }
    }
}
