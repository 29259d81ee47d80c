import com.sun.management.ThreadMXBean;
import java.lang.management.ManagementFactory;

/**
 * The room of one run: an object and its dearest 512 calls. An array's element takes a byte at least, a field or an
 * object no less, so that bytes below a million are far below 7.3 million fields and elements.
 */
final class RoomTest {
    private static final long MOST_BYTES = 1_000_000;
    private static final int CALLS = 512;
    private static final ThreadMXBean BEAN = (ThreadMXBean) ManagementFactory.getThreadMXBean();

    public static void main(String[] args) {
        String dear = "when even and even and even and even and even and even and even and not even hold;".repeat(2);
        for (int round = 0; round < 2; round++) {
            // the first round warms up: what the machine makes once is not the class's
            room("methods", round, x -> Check.method(x, dear));
            room("faults", round, x -> x.method());
            room("stages", round, x -> x.stage(3 + CALLS % 5));
            room("runs", round, RoomTest::run);
            room("groups", round, RoomTest::group);
            room("ringings", round, RoomTest::ringing);
            room("lines", round, RoomTest::line);
            room("boards", round, x -> x.board(1, 4, 64) + x.fill(1, 0, 64) + x.copy(1, 0, 1, 0, 64));
        }
        Check.finish();
    }

    private interface Calls {
        int on(BelfryHouse x);
    }

    private static void room(String what, int round, Calls calls) {
        long before = BEAN.getCurrentThreadAllocatedBytes();
        BelfryHouse x = new BelfryHouse();
        for (int i = 0; i < CALLS; i++) calls.on(x);
        long bytes = BEAN.getCurrentThreadAllocatedBytes() - before;
        if (round > 0) System.out.println("512 times " + what + ": " + bytes + " bytes");
        if (round > 0 && !what.equals("methods")) Check.holds(what + " stay in the room", bytes < MOST_BYTES);
    }

    private static int run(BelfryHouse x) {
        if (x.about(0, 0) < 0) x.feed(7, 16642703855940195L);
        if (x.about(0, 0) < 0) x.method();
        return x.ring(0) + x.go(500) + x.truth(9, 1) + x.run(3) + x.heads(0, 59);
    }

    private static int group(BelfryHouse x) {
        return x.free() + x.generator(234561) + x.generator(213456) + x.group() + x.coset(654321);
    }

    private static int ringing(BelfryHouse x) {
        return run(x) + x.band(1, 0, 400) + x.band(1, 0, 40) + x.listen();
    }

    private static int line(BelfryHouse x) {
        return x.note(1, 0) + (int) x.line(3) + (int) x.along(0, 2) + x.heard(0);
    }
}
