/** Promise 5: fill. */
public final class Promise05FillTest {
    /** 1 + 2 + .. + 4096: the sum of a page whose bytes are all 1. */
    private static final long ONES = 8390656L;

    public static void main(String[] args) {
        Check.sentence("All bytes from an address to before another one become v",
            Promise05FillTest::everyStartAndEnd);
        Check.sentence("All bytes .. become v (over the edges of pages)", Promise05FillTest::acrossPages);
        Check.sentence("All bytes .. become v (a page but for one byte)", Promise05FillTest::allButOneByteOfAPage);
        Check.sentence("All bytes .. become v (all of memory)", Promise05FillTest::allOfMemory);
        Check.sentence("All bytes .. become v (again and again)", Promise05FillTest::storesIntoFilledPages);
        Check.sentence("its lowest eight bits", Promise05FillTest::lowestEightBits);
        Check.sentence("IllegalArgumentException, too: to is less than from.", Promise05FillTest::turnedRound);
        Check.sentence("None are stored when they are the same, wherever that is.",
            Promise05FillTest::nothingToFill);
        Check.sentence("throws IndexOutOfBoundsException", Promise05FillTest::notInMemory);
        Check.end();
    }

    private static void everyStartAndEnd() {
        for (int from = 0; from < 20; from++) {
            for (int to = from; to < 28; to++) {
                SharedMemory m = new SharedMemory(1);
                for (int i = 0; i < 32; i += 8) {
                    m.store(Check.BASE + i, 8, 0x1122334455667788L);
                }
                m.fill(Check.BASE + from, Check.BASE + to, 0xcd);
                for (int i = 0; i < 32; i++) {
                    long due = i >= from && i < to ? 0xcd : 0x88 - 0x11 * (i % 8);
                    Check.same("fill " + from + " " + to + " byte " + i, m.load(Check.BASE + i, 1), due);
                }
            }
        }
    }

    private static void acrossPages() {
        SharedMemory m = new SharedMemory(5);
        m.fill(Check.EDGE - 1, Check.EDGE + 2 * Check.PAGE + 1, 2);
        Check.same("sum of the first", m.sum(0), 2 * 4096);
        Check.same("sum of a whole one", m.sum(1), 2 * ONES);
        Check.same("sum of the next", m.sum(2), 2 * ONES);
        Check.same("sum of the last", m.sum(3), 2);
        Check.same("sum behind", m.sum(4), 0);
        for (int i = -9; i <= 9; i++) {
            SharedMemory n = new SharedMemory(2);
            n.fill(Check.EDGE + Math.min(i, 0), Check.EDGE + Math.max(i, 0), 3);
            Check.same("before the edge " + i, n.load(Check.EDGE - 8, 8), threes(i < 0 ? -i : 0, true));
            Check.same("behind the edge " + i, n.load(Check.EDGE, 8), threes(i > 0 ? i : 0, false));
        }
    }

    private static long threes(int count, boolean atTheTop) {
        if (count == 0) {
            return 0;
        }
        int rest = 64 - 8 * Math.min(count, 8);
        return atTheTop ? 0x0303030303030303L & -1L << rest : 0x0303030303030303L & -1L >>> rest;
    }

    private static void allButOneByteOfAPage() {
        SharedMemory m = new SharedMemory(1);
        m.fill(Check.BASE, Check.EDGE - 1, 6);
        Check.same("but for the last", m.sum(0), 6 * (ONES - 4096));
        Check.same("the last", m.load(Check.EDGE - 1, 1), 0);
        m.fill(Check.BASE, Check.EDGE, 0);
        m.fill(Check.BASE + 1, Check.EDGE, 6);
        Check.same("but for the first", m.sum(0), 6 * (ONES - 1));
        Check.same("the first", m.load(Check.BASE, 1), 0);
    }

    private static void allOfMemory() {
        for (int pages : new int[] {1, 2, 1024}) {
            SharedMemory m = new SharedMemory(pages);
            long end = Check.BASE + pages * Check.PAGE;
            m.fill(Check.BASE, end, 255);
            Check.same("used", m.used(), pages);
            Check.same("the first page", m.sum(0), 255 * ONES);
            Check.same("the last page", m.sum(pages - 1), 255 * ONES);
            Check.same("the first byte", m.load(Check.BASE, 1), 255);
            Check.same("the last byte", m.load(end - 1, 1), 255);
            m.fill(Check.BASE, end, 0);
            Check.same("used after all is 0", m.used(), 0);
            Check.same("the last page after all is 0", m.sum(pages - 1), 0);
        }
    }

    /** A page may go from one value to many and back any number of times. */
    private static void storesIntoFilledPages() {
        SharedMemory m = new SharedMemory(1);
        for (int v = 1; v < 60; v++) {
            m.fill(Check.BASE, Check.EDGE, v);
            m.store(Check.BASE + 100, 1, 0);
            Check.same("the byte", m.load(Check.BASE + 100, 1), 0);
            Check.same("before it", m.load(Check.BASE + 99, 1), v);
            Check.same("behind it", m.load(Check.BASE + 101, 1), v);
            Check.same("at the end", m.load(Check.BASE + 4095, 1), v);
            Check.same("sum", m.sum(0), v * (ONES - 101));
        }
    }

    private static void lowestEightBits() {
        int[] values = {0, 1, 127, 128, 255, 256, 257, 511, -1, -128, -129, -256, 0x12345678, 0x7fffff00,
            Integer.MIN_VALUE, Integer.MAX_VALUE};
        SharedMemory m = new SharedMemory(2);
        for (int v : values) {
            m.fill(Check.BASE + 3, Check.BASE + 5, v);
            m.fill(Check.EDGE, Check.END, v);
            Check.same("part of a page " + v, m.load(Check.BASE, 8), (v & 255L) * 0x0101 << 24);
            Check.same("a whole page " + v, m.load(Check.END - 8, 8), (v & 255L) * 0x0101010101010101L);
        }
    }

    private static void turnedRound() {
        turned(Check.BASE + 1, Check.BASE);
        turned(Check.END, Check.BASE);
        turned(Check.END, Check.END - 1);
        turned(Check.AT + 8, Check.AT + 7);
        turned(Check.BASE, Check.BASE - 1);
        turned(Check.END + 9, Check.END + 8);
        turned(1, 0);
        turned(0, -1);
        turned(Check.BASE, Long.MIN_VALUE);
        turned(Long.MAX_VALUE, Long.MAX_VALUE - 1);
        // The difference of these two does not fit in a long.
        turned(Long.MAX_VALUE, Long.MIN_VALUE);
        turned(Check.AT, Long.MIN_VALUE + 1);
    }

    private static void turned(long from, long to) {
        Check.refused("fill " + from + " " + to, Check.ARGUMENT, m -> m.fill(from, to, 1));
    }

    private static void nothingToFill() {
        for (long at : new long[] {Check.BASE, Check.BASE + 1, Check.AT, Check.EDGE, Check.END - 1, Check.END,
                Check.BASE - 1, Check.END + 1, 0, 7, -1, Long.MAX_VALUE, Long.MIN_VALUE}) {
            Check.changesNothing("fill of none at " + at, m -> m.fill(at, at, 1));
        }
    }

    private static void notInMemory() {
        for (int n : new int[] {1, 2, 8, 4096, 8192}) {
            for (long at : Check.notInMemory(n, Check.END)) {
                long to = at + n;
                if (to > at) {
                    Check.refused("fill " + at + " " + to, Check.INDEX, m -> m.fill(at, to, 1));
                }
            }
        }
    }
}
