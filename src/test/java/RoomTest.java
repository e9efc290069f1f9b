import com.sun.management.ThreadMXBean;
import java.lang.management.ManagementFactory;

/**
 * All calls of one run live in a room of some 600,000 objects and arrays, 7.3 million fields and
 * elements in all. It is measured in bytes made, whether they are kept or not: an object takes no
 * less than 16 of them, and a field or element of this class, but for a flag in each page, no less
 * than 4, so that what stays under the limit in bytes stays under both of the others.
 */
public final class RoomTest {
    private static final long MOST_BYTES = 16L * 600_000;
    private static final int CALLS = 512;
    private static final ThreadMXBean THREADS = (ThreadMXBean) ManagementFactory.getThreadMXBean();

    public static void main(String[] args) {
        makesLittle("stores over the edges of pages", LastCallTest::storesOverEdges);
        makesLittle("fills of all of memory", LastCallTest::fillsOfAll);
        makesLittle("one byte and all of memory in turn", LastCallTest::bytesAndFillsInTurn);
        makesLittle("reservations", LastCallTest::reservations);
        makesLittle("calls that throw", LastCallTest::callsThatThrow);
        makesLittle("fills of all but a byte at both ends of two pages", RoomTest::fillsOfPairs);
        makesLittle("questions", RoomTest::questions);
        Check.end();
    }

    private static void makesLittle(String what, Runnable run) {
        long before = THREADS.getCurrentThreadAllocatedBytes();
        run.run();
        long made = THREADS.getCurrentThreadAllocatedBytes() - before;
        Check.isTrue("a run's room, " + what + ": " + made + " bytes", before >= 0 && made <= MOST_BYTES);
    }

    private static void fillsOfPairs() {
        SharedMemory m = new SharedMemory(1024);
        for (int i = 0; i < CALLS; i++) {
            long at = Check.BASE + 2 * i * Check.PAGE;
            m.fill(at + 1, at + 2 * Check.PAGE - 1, 7);
        }
    }

    private static void questions() {
        SharedMemory m = new SharedMemory(1024);
        m.fill(Check.BASE + 1, Check.BASE + 1024 * Check.PAGE - 1, 7);
        for (int i = 1; i < CALLS; i += 3) {
            m.used();
            m.sum(i);
            m.load(Check.BASE + i * Check.PAGE - 3, 8);
        }
    }
}
