import java.lang.management.ManagementFactory;

/** All calls of a run live in one room: the dearest ones must not make objects. */
public final class RoomTest {
    private static final int CALLS = 512;
    /** An object takes some 10,000 bytes of numbers when it is made; a run must not take ten such. */
    private static final long MOST_FOR_NEW = 40_000;
    private static final long MOST_FOR_CALLS = 4_000;

    private RoomTest() {
    }

    public static void main(String[] args) {
        long least = Long.MAX_VALUE;
        long leastNew = Long.MAX_VALUE;
        // The machine's own work may fall into a run: the least of several is the program's.
        for (int round = 0; round < 5; round++) {
            long before = taken();
            AirWatch watch = new AirWatch();
            leastNew = Math.min(leastNew, taken() - before);
            fill(watch);
            before = taken();
            callAll(watch);
            least = Math.min(least, taken() - before);
        }
        Check.due("a new object takes " + leastNew + " bytes", leastNew <= MOST_FOR_NEW, true);
        Check.due("the calls take " + least + " bytes", least <= MOST_FOR_CALLS, true);
        Check.finish();
    }

    private static long taken() {
        return ((com.sun.management.ThreadMXBean) ManagementFactory.getThreadMXBean())
                .getThreadAllocatedBytes(Thread.currentThread().getId());
    }

    private static void fill(AirWatch watch) {
        for (int i = 0; i < 6; i++) {
            watch.post(5 * i, 3 * i);
        }
        for (int i = 0; i < 100; i++) {
            watch.listened(i % 6, i % 16, 0, 9999 - i);
        }
        for (int i = 0; i < 60; i++) {
            watch.mark(i % 6, i % 16, 100 * i, 100 * i + 50, i);
            watch.wedge(i, 1, 0, 0, 1);
        }
        for (int i = 0; i < 9; i++) {
            Text.licence(watch, "chan 0-7;time 9-8;");
        }
    }

    private static void callAll(AirWatch watch) {
        for (int i = 0; i < CALLS / 8; i++) {
            watch.sweep(65535, 9000, 4, 240);
            watch.wanderers();
            watch.best(0, 1);
            watch.joins(i, i);
            watch.minutes(i % 16, 0, 9999, 1);
            watch.wedge(i % 60, 1, 0, 1, 1);
            watch.sender(0, 7);
            watch.feed(i, i, i, i, i);
        }
    }
}
