import java.lang.management.ManagementFactory;

/** Calls make no objects: all rows are made in the constructor, and used again. */
final class RoomTest {
    private static final int CALLS = 512;

    public static void main(String[] args) {
        Due due = new Due("RoomTest");
        busy(new LeaseNet());
        com.sun.management.ThreadMXBean threads =
                (com.sun.management.ThreadMXBean) ManagementFactory.getThreadMXBean();
        long me = Thread.currentThread().getId();
        long start = threads.getThreadAllocatedBytes(me);
        LeaseNet x = new LeaseNet();
        long made = threads.getThreadAllocatedBytes(me);
        busy(x);
        long used = threads.getThreadAllocatedBytes(me);
        due.is("a new object is small (bytes): " + (made - start), made - start < 100_000, true);
        due.is("calls make nothing (bytes): " + (used - made), used - made < 4_096, true);
        due.end();
    }

    private static void busy(LeaseNet x) {
        x.pool(0, 2, 250, 8);
        x.pool(1, 2, 250, 8);
        for (int c = 0; c < 12; c++) {
            x.join(c, c % 2);
        }
        for (int i = 14; i + 4 <= CALLS; i += 4) {
            x.type(i, 8);
            x.tick();
            x.run(200);
            x.count(4);
        }
    }
}
