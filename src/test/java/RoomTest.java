import java.lang.management.ManagementFactory;

/** What a run of 512 calls makes stays far below the room of 7.3 million fields and elements. */
public final class RoomTest {
    private static final Due DUE = new Due("RoomTest");
    private static final long MOST_BYTES = 7_300_000L;

    public static void main(String[] args) {
        DUE.is("the dearest run of one object is small", bytesOf(RoomTest::dearestRun) < MOST_BYTES, true);
        DUE.is("512 new objects are small", bytesOf(RoomTest::newObjects) < MOST_BYTES, true);
        DUE.finish();
    }

    private static long bytesOf(Runnable work) {
        com.sun.management.ThreadMXBean threads =
                (com.sun.management.ThreadMXBean) ManagementFactory.getThreadMXBean();
        work.run();
        long before = threads.getThreadAllocatedBytes(Thread.currentThread().getId());
        work.run();
        return threads.getThreadAllocatedBytes(Thread.currentThread().getId()) - before;
    }

    /** Fifteen of one word, and a byte and a pick by turns, up to more than 3000 occurrences. */
    private static void dearestRun() {
        ScanDesk desk = new ScanDesk(2000);
        for (int w = 0; w < 15; w++) {
            desk.put('a');
            desk.add();
        }
        desk.build();
        for (int call = 31; call < 510; call += 2) {
            desk.text(0x61000000, 0, 0, 0, 0, 1);
            desk.pick();
        }
    }

    private static void newObjects() {
        for (int i = 0; i < 512; i++) {
            new ScanDesk(2000);
        }
    }
}
