import java.lang.management.ManagementFactory;

/** The calls of a run live in one room: what an object and its 512 calls take is looked at here. */
final class RoomTest {
    // A run has room for some 7.3 million fields and elements: a hundredth of it for an object, a twentieth for its
    // calls, when each takes 4 bytes.
    private static final long MOST_BYTES_OF_AN_OBJECT = 4 * 7_300_000 / 100;
    private static final long MOST_BYTES_OF_ITS_CALLS = 4 * 7_300_000 / 20;

    private RoomTest() {
    }

    static void all() {
        com.sun.management.ThreadMXBean threads =
            (com.sun.management.ThreadMXBean) ManagementFactory.getThreadMXBean();
        if (!threads.isThreadAllocatedMemorySupported()) {
            return;
        }
        long self = Thread.currentThread().getId();
        full().isTold();
        long start = threads.getThreadAllocatedBytes(self);
        ClockParliament x = full();
        long made = threads.getThreadAllocatedBytes(self);
        for (int i = 0; i < 50; i++) {
            x.isTold();
            x.rowIn(24, 0);
            x.rowAgain(24, 0);
            x.silentIn(0);
            x.secondIn(0, 48);
            x.circle(0);
            x.tell(0);
            x.tellBill(0);
            x.tellRow();
        }
        long called = threads.getThreadAllocatedBytes(self);
        Check.isSo("room of an object", made - start <= MOST_BYTES_OF_AN_OBJECT);
        Check.isSo("room of its calls", called - made <= MOST_BYTES_OF_ITS_CALLS);
    }

    private static ClockParliament full() {
        ClockParliament x = new ClockParliament();
        for (int i = 0; i < 8; i++) {
            x.clock(7 * i, i % 4);
        }
        for (int i = 0; i < 10; i++) {
            x.bill(i % 8, 5 * i, 1);
        }
        x.adjourn(2, 9);
        x.adjourn(1, 12);
        return x;
    }
}
