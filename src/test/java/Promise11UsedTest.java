/** Promise 11: used. */
public final class Promise11UsedTest {
    public static void main(String[] args) {
        countsPages();
        anyByteCounts();
        goesBackToNone();
        allPages();
        Check.end();
    }

    private static void countsPages() {
        SharedMemory m = new SharedMemory(4);
        m.store(Check.BASE, 8, 0);
        Check.same("a 0 stored is nothing", m.used(), 0);
        m.store(Check.BASE + 5, 1, 1);
        Check.same("one", m.used(), 1);
        m.store(Check.BASE + 6, 1, 1);
        Check.same("still one", m.used(), 1);
        m.store(Check.BASE + 3 * Check.PAGE - 1, 2, 0x0101);
        Check.same("two at once", m.used(), 3);
        m.atomic(0, 0, Check.BASE + Check.PAGE, 8, Long.MIN_VALUE);
        Check.same("by an atomic change", m.used(), 4);
        m.atomic(0, 0, Check.BASE + Check.PAGE, 8, Long.MIN_VALUE);
        Check.same("which wraps back to 0", m.used(), 3);
    }

    private static void anyByteCounts() {
        for (int i = 0; i < 4096; i += 5) {
            SharedMemory m = new SharedMemory(1);
            m.store(Check.BASE + i, 1, 128);
            Check.same("byte " + i, m.used(), 1);
            m.store(Check.BASE + i, 1, 256);
            Check.same("no byte " + i, m.used(), 0);
        }
    }

    private static void goesBackToNone() {
        SharedMemory m = new SharedMemory(2);
        m.fill(Check.BASE + 1, Check.BASE + Check.PAGE + 1, 1);
        Check.same("both", m.used(), 2);
        m.fill(Check.BASE, Check.BASE + Check.PAGE, 0);
        Check.same("the second", m.used(), 1);
        m.fill(Check.BASE, Check.BASE + Check.PAGE, 8);
        m.fill(Check.BASE + 1, Check.BASE + Check.PAGE, 0);
        Check.same("by one byte alone", m.used(), 2);
        m.store(Check.BASE, 1, 0);
        Check.same("the second again", m.used(), 1);
        m.store(Check.BASE + Check.PAGE - 3, 8, 0);
        Check.same("none", m.used(), 0);
    }

    private static void allPages() {
        SharedMemory m = new SharedMemory(1024);
        for (int i = 1; i <= 500; i++) {
            m.store(Check.BASE + 2 * i * Check.PAGE, 1, 3);
        }
        Check.same("500 pages", m.used(), 500);
        m.fill(Check.BASE, Check.BASE + 1024 * Check.PAGE, -1);
        Check.same("all", m.used(), 1024);
    }
}
