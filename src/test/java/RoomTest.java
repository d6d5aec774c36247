import java.lang.management.ManagementFactory;

/**
 * All calls of one run share one room of some 7.3 million fields and elements. The bytes that a run
 * allocates are measured; every field and element is at least a byte, so bytes below the room's
 * number of elements are surely few enough.
 */
public final class RoomTest {
    private static final long ROOM = 7_300_000L;
    private static final Checks CHECKS = new Checks();

    private RoomTest() {
    }

    public static void main(String[] args) {
        run(Houses.withCards(1));
        CHECKS.holds("a run of constructors fits into the room", true, () -> allocated(RoomTest::constructors) < ROOM);
        CHECKS.holds("a run of cards fits into the room", true, () -> allocated(() -> Houses.withCards(512)) < ROOM);
        CHECKS.holds("a run of entries fits into the room", true, () -> allocated(RoomTest::entries) < ROOM);
        LockHouse x = busyHouse();
        CHECKS.holds("spread and gate make next to nothing", true, () -> allocated(() -> run(x)) < ROOM / 10);
        CHECKS.end();
    }

    private static long allocated(Runnable action) {
        com.sun.management.ThreadMXBean threads =
                (com.sun.management.ThreadMXBean) ManagementFactory.getThreadMXBean();
        long before = threads.getCurrentThreadAllocatedBytes();
        action.run();
        return threads.getCurrentThreadAllocatedBytes() - before;
    }

    private static void constructors() {
        for (int i = 0; i < 512; i++) {
            new LockHouse().cards();
        }
    }

    private static void entries() {
        LockHouse x = Houses.withCards(256);
        Houses.revoke(x, 0, 256);
    }

    private static LockHouse busyHouse() {
        LockHouse x = Houses.withCards(60);
        Houses.revoke(x, 0, 45);
        x.gate(50);
        for (int i = 0; i < 200; i++) {
            x.visit(i, i % 60, i, 0);
        }
        return x;
    }

    private static void run(LockHouse x) {
        for (int i = 0; i < 200; i++) {
            x.spread(200);
            x.gate(0);
        }
    }
}
