/** Promise 5: fill. */
public final class Promise05FillTest {
    public static void main(String[] args) {
        everyStartAndEnd();
        lowestEightBits();
        acrossPages();
        allButOneByteOfAPage();
        storesIntoFilledPages();
        countsAndReservations();
        nothingToFill();
        wrongRanges();
        Check.end();
    }

    private static void everyStartAndEnd() {
        for (int from = 0; from < 20; from++) {
            for (int to = from; to < 28; to++) {
                SharedMemory m = new SharedMemory(1);
                for (int i = 0; i < 32; i += 8) {
                    m.store(Check.BASE + i, 8, 0x1122334455667788L);
                }
                m.fill(Check.BASE + from, Check.BASE + to, 0xcd);
                for (int i = 0; i < 32; i++) {
                    long due = i >= from && i < to ? 0xcd : 0x88 - 0x11 * (i % 8);
                    Check.same("fill " + from + " " + to + " byte " + i, m.load(Check.BASE + i, 1), due);
                }
            }
        }
    }

    private static void lowestEightBits() {
        SharedMemory m = new SharedMemory(2);
        int[] values = {0, 1, 127, 128, 255, 256, 511, -1, -256, 0x12345678, Integer.MIN_VALUE, Integer.MAX_VALUE};
        for (int v : values) {
            m.fill(Check.BASE + 3, Check.BASE + 5, v);
            m.fill(Check.BASE + Check.PAGE, Check.BASE + 2 * Check.PAGE, v);
            Check.same("part of a page " + v, m.load(Check.BASE, 8), (v & 255L) * 0x0101 << 24);
            Check.same("whole page " + v, m.load(Check.BASE + 2 * Check.PAGE - 8, 8), (v & 255L) * 0x0101010101010101L);
        }
    }

    private static void acrossPages() {
        SharedMemory m = new SharedMemory(5);
        m.fill(Check.BASE + Check.PAGE - 1, Check.BASE + 3 * Check.PAGE + 1, 2);
        Check.same("sum of the first", m.sum(0), 2 * 4096);
        Check.same("sum of a whole one", m.sum(1), 2 * 8390656L);
        Check.same("sum of the next", m.sum(2), 2 * 8390656L);
        Check.same("sum of the last", m.sum(3), 2);
        Check.same("sum behind", m.sum(4), 0);
        Check.same("used", m.used(), 4);
        m.fill(Check.BASE, Check.BASE + 5 * Check.PAGE, 0);
        Check.same("used after all is 0", m.used(), 0);
        Check.same("sum after all is 0", m.sum(0), 0);
    }

    private static void allButOneByteOfAPage() {
        SharedMemory m = new SharedMemory(1);
        m.fill(Check.BASE, Check.BASE + Check.PAGE - 1, 6);
        Check.same("but for the last", m.sum(0), 6 * (8390656L - 4096));
        Check.same("the last", m.load(Check.BASE + Check.PAGE - 1, 1), 0);
        m.fill(Check.BASE, Check.BASE + Check.PAGE, 0);
        m.fill(Check.BASE + 1, Check.BASE + Check.PAGE, 6);
        Check.same("but for the first", m.sum(0), 6 * (8390656L - 1));
        Check.same("the first", m.load(Check.BASE, 1), 0);
    }

    /** A page may go from one value to many and back any number of times. */
    private static void storesIntoFilledPages() {
        SharedMemory m = new SharedMemory(1);
        for (int v = 1; v < 6; v++) {
            m.fill(Check.BASE, Check.BASE + Check.PAGE, v);
            m.store(Check.BASE + 100, 1, 0);
            Check.same("the byte", m.load(Check.BASE + 100, 1), 0);
            Check.same("before it", m.load(Check.BASE + 99, 1), v);
            Check.same("behind it", m.load(Check.BASE + 101, 1), v);
            Check.same("at the end", m.load(Check.BASE + 4095, 1), v);
            Check.same("sum", m.sum(0), v * (8390656L - 101));
        }
    }

    private static void countsAndReservations() {
        SharedMemory m = new SharedMemory(4);
        long edge = Check.BASE + Check.PAGE;
        m.atomic(0, 2, edge - 16, 8, 0);
        m.atomic(1, 2, edge - 8, 4, 0);
        m.atomic(2, 2, edge + Check.PAGE + 4, 4, 0);
        m.atomic(3, 2, edge + Check.PAGE + 8, 4, 0);
        m.fill(edge - 1, edge + Check.PAGE + 1, 0);
        Check.same("writes 0", m.writes(0), 1);
        Check.same("writes 1", m.writes(1), 1);
        Check.same("writes 2", m.writes(2), 1);
        Check.same("writes 3", m.writes(3), 0);
        Check.same("before", m.reserved(0), edge - 16);
        Check.same("same eight bytes as the start", m.reserved(1), 0);
        Check.same("same eight bytes as the end", m.reserved(2), 0);
        Check.same("behind", m.reserved(3), edge + Check.PAGE + 8);
        m.fill(edge, edge + Check.PAGE, 3);
        Check.same("a whole page alone, before", m.writes(0), 1);
        Check.same("a whole page alone", m.writes(1), 2);
        Check.same("a whole page alone, behind", m.writes(2), 1);
    }

    private static void nothingToFill() {
        SharedMemory m = new SharedMemory(1);
        m.atomic(0, 2, Check.BASE, 8, 0);
        String before = Check.seen(m);
        for (long at : new long[] {Check.BASE, Check.BASE + 1, Check.BASE + Check.PAGE, Check.BASE - 1, 0, 7, -1,
                Check.BASE + Check.PAGE + 1, Long.MAX_VALUE, Long.MIN_VALUE}) {
            m.fill(at, at, 1);
            Check.isTrue("fill of none at " + at, before.equals(Check.seen(m)));
        }
    }

    private static void wrongRanges() {
        SharedMemory m = new SharedMemory(2);
        long end = Check.BASE + 2 * Check.PAGE;
        m.atomic(0, 2, Check.BASE, 8, 0);
        m.atomic(1, 2, end - 8, 8, 0);
        outside(m, Check.BASE - 1, Check.BASE + 1);
        outside(m, Check.BASE - 1, Check.BASE);
        outside(m, end - 1, end + 1);
        outside(m, end, end + 1);
        outside(m, 0, end);
        outside(m, Check.BASE, Long.MAX_VALUE);
        outside(m, Long.MIN_VALUE, Long.MAX_VALUE);
        outside(m, Long.MIN_VALUE, Check.BASE + 1);
        outside(m, Long.MIN_VALUE, Long.MIN_VALUE + 1);
        outside(m, Check.BASE + (1L << 32), Check.BASE + (1L << 32) + 8);
        turned(m, Check.BASE + 1, Check.BASE);
        turned(m, end, Check.BASE);
        turned(m, end + 9, end + 8);
        turned(m, 1, 0);
        turned(m, Long.MAX_VALUE, Long.MIN_VALUE);
        turned(m, Check.BASE, Long.MIN_VALUE);
    }

    private static void outside(SharedMemory m, long from, long to) {
        Check.failsAndKeeps("fill " + from + " " + to, Check.INDEX, m, () -> m.fill(from, to, 1));
    }

    private static void turned(SharedMemory m, long from, long to) {
        Check.failsAndKeeps("fill " + from + " " + to, Check.ARGUMENT, m, () -> m.fill(from, to, 1));
    }
}
