/** Promise 11: used. */
public final class Promise11UsedTest {
    public static void main(String[] args) {
        Check.sentence("How many pages have some byte that is not 0.", Promise11UsedTest::countsPages);
        Check.sentence("some byte (any one of them)", Promise11UsedTest::anyByteCounts);
        Check.sentence("that is not 0 (and 0 again)", Promise11UsedTest::goesBackToNone);
        Check.sentence("How many pages (none)", Promise11UsedTest::none);
        Check.sentence("How many pages (all)", Promise11UsedTest::allPages);
        Check.end();
    }

    private static void countsPages() {
        SharedMemory m = new SharedMemory(4);
        m.store(Check.BASE + 5, 1, 1);
        Check.same("one", m.used(), 1);
        m.store(Check.BASE + 6, 1, 1);
        Check.same("still one", m.used(), 1);
        m.store(Check.BASE + 3 * Check.PAGE - 1, 2, 0x0101);
        Check.same("two at once", m.used(), 3);
        m.atomic(0, Check.ADD, Check.EDGE, 8, Long.MIN_VALUE);
        Check.same("by an atomic change", m.used(), 4);
        m.atomic(0, Check.ADD, Check.EDGE, 8, Long.MIN_VALUE);
        Check.same("which wraps back to 0", m.used(), 3);
        m.atomic(0, Check.RESERVE, Check.EDGE, 8, 0);
        m.atomic(0, Check.CONDITIONAL, Check.EDGE, 8, 1);
        Check.same("by a conditional store", m.used(), 4);
    }

    private static void anyByteCounts() {
        for (int i = 0; i < 4096; i++) {
            SharedMemory m = new SharedMemory(1);
            m.store(Check.BASE + i, 1, 128);
            Check.same("byte " + i, m.used(), 1);
            m.store(Check.BASE + i, 1, 256);
            Check.same("no byte " + i, m.used(), 0);
            m.fill(Check.BASE, Check.EDGE, 1);
            m.fill(Check.BASE, Check.BASE + i, 0);
            m.fill(Check.BASE + i + 1, Check.EDGE, 0);
            Check.same("all but byte " + i + " are 0", m.used(), 1);
        }
    }

    private static void goesBackToNone() {
        SharedMemory m = new SharedMemory(2);
        m.fill(Check.BASE + 1, Check.EDGE + 1, 1);
        Check.same("both", m.used(), 2);
        m.fill(Check.BASE, Check.EDGE, 0);
        Check.same("the second", m.used(), 1);
        m.fill(Check.BASE, Check.EDGE, 8);
        m.fill(Check.BASE + 1, Check.EDGE, 0);
        Check.same("by one byte alone", m.used(), 2);
        m.store(Check.BASE, 1, 0);
        Check.same("the second again", m.used(), 1);
        m.store(Check.EDGE - 3, 8, 0);
        Check.same("none", m.used(), 0);
        m.fill(Check.BASE, Check.EDGE, 256);
        Check.same("none by 256, whose lowest eight bits are 0", m.used(), 0);
    }

    private static void none() {
        for (int pages : new int[] {1, 2, 1024}) {
            SharedMemory m = new SharedMemory(pages);
            Check.same("a new object", m.used(), 0);
            m.store(Check.BASE, 8, 0);
            m.fill(Check.BASE, Check.BASE + pages * Check.PAGE, 0);
            m.atomic(0, Check.SWAP, Check.BASE, 8, 0);
            Check.same("written, but with 0", m.used(), 0);
        }
    }

    private static void allPages() {
        SharedMemory m = new SharedMemory(1024);
        for (int i = 1; i <= 500; i++) {
            m.store(Check.BASE + 2 * i * Check.PAGE, 1, 3);
        }
        Check.same("500 pages", m.used(), 500);
        m.fill(Check.BASE, Check.BASE + 1024 * Check.PAGE, -1);
        Check.same("all", m.used(), 1024);
        m.fill(Check.BASE, Check.BASE + Check.PAGE, 0);
        Check.same("all but the first", m.used(), 1023);
        m.fill(Check.BASE + 1023 * Check.PAGE, Check.BASE + 1024 * Check.PAGE, 0);
        Check.same("and but the last", m.used(), 1022);
    }
}
