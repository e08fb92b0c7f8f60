import java.lang.management.ManagementFactory;

/** All calls of a run live in one room: an object is small, and no call makes anything. */
public final class RoomTests {
    /** As many as an object's 512 calls are enough for. */
    private static final int BUSY_YEARS = 8;
    private static final Due due = new Due();
    private static final com.sun.management.ThreadMXBean THREADS =
        (com.sun.management.ThreadMXBean) ManagementFactory.getThreadMXBean();

    public static void main(String[] args) {
        busyYear(new OrchardBook());
        long start = made();
        OrchardBook x = new OrchardBook();
        long object = made() - start;
        due.holds("an object of " + object + " bytes", object < 40_000);
        start = made();
        for (int k = 0; k < BUSY_YEARS; k++) {
            busyYear(x);
        }
        long calls = made() - start;
        due.holds("calls made " + calls + " bytes", calls < 400);
        due.end();
    }

    private static long made() {
        return THREADS.getThreadAllocatedBytes(Thread.currentThread().getId());
    }

    private static void busyYear(OrchardBook x) {
        x.sort(0, 3, 10, 60, 0);
        x.sort(10, 9, 30, 9, 0);
        x.takes(0, 1, true);
        x.takes(1, 1, true);
        x.distance(9);
        for (int p = 0; p < 12; p++) {
            x.at(p, p, 1);
            x.plant(p, p < 8 ? 1 : p % 4 + 1, p % 2, 1);
        }
        x.pull(11, 1);
        x.as(0, 1);
        x.of(0, 7);
        x.cut(0, 1);
        x.sheet(0, 2, 50);
        x.put(0, 1, 0x7fc00000);
        x.copy(0, 0, 0, 1, 9);
        x.name(0);
        x.warmth(1);
        x.sum(49);
        x.name(-1);
        x.blooms(0);
        x.frost(1, 3, 50);
        x.partners(0, 0, 0);
        x.hours(99);
        x.keep();
        x.go(20);
        x.fruits(0, 0);
        x.thin(0, 1);
        x.store(0);
        x.take(0, 9);
        x.all(6);
        x.lone(0);
        x.best();
        x.given(0);
        x.back();
        x.go(50);
        x.told(9);
    }
}
