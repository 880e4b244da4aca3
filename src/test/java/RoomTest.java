import java.lang.management.ManagementFactory;

/** All calls of one run live in one room, so no call makes anything: counted in bytes, over 512 calls. */
public final class RoomTest {
    private static final int CALLS = 512;

    public static void main(String[] args) {
        Due due = new Due();
        // what the machine itself makes when a method is met first is not the class's
        run();
        long used = run();
        due.is("bytes made by " + CALLS + " calls", Math.max(2000, used), 2000);
        due.end();
    }

    private static long run() {
        HeardBarrels x = new HeardBarrels();
        HeardBarrels y = new HeardBarrels();
        Due.house(x, "barrel 1;".repeat(12));
        Due.house(y, "barrel 3;".repeat(5) + "barrel 2 stones;barrel 1 bad;gap;hands 1;left 4;");
        Due.row(x, 0, 2, 999, 999, 999, 999, 999, 999, 999, 999, 999, 999, 999, 999);
        Due.row(y, 0, 2, 999, 999, 999, 999, 999, 999, 999, 999);
        Due.row(y, 1, 3, 1, 5, 9, 100);
        com.sun.management.ThreadMXBean meter =
                (com.sun.management.ThreadMXBean) ManagementFactory.getThreadMXBean();
        long thread = Thread.currentThread().getId();
        long before = meter.getThreadAllocatedBytes(thread);
        for (int i = 0; i < CALLS / 32; i++) {
            dear(x);
            dear(y);
        }
        return meter.getThreadAllocatedBytes(thread) - before;
    }

    private static void dear(HeardBarrels x) {
        x.feed(0x67617020, 0x3B6C6F77, 0x20323B20, 0, 0);
        x.image(0);
        x.house(12);
        x.restore(0);
        x.fit(0);
        x.next(0);
        x.needed(0);
        x.fitting(0, 9);
        x.enough();
        x.kept(8, 17);
        x.longest();
        x.apart(10);
        x.orders(1, 13);
        x.ripeBy(60, 2);
        x.missed(1, 3);
        x.leftAlone(30);
    }
}
