/** Promise 10: sum. */
public final class Promise10SumTest {
    /** 1 + 2 + .. + 4096: the sum of a page whose bytes are all 1. */
    private static final long ONES = 8390656L;

    public static void main(String[] args) {
        Check.sentence("each times 1 more than its place in the page (from 0)", Promise10SumTest::weighsEachPlace);
        Check.sentence("The sum of all bytes of a page", Promise10SumTest::addsAllBytes);
        Check.sentence("each 0 .. 255", Promise10SumTest::bytesHaveNoSign);
        Check.sentence("The sum of all bytes (none but 0)", Promise10SumTest::noneButZero);
        Check.sentence("The sum of all bytes (the greatest)", Promise10SumTest::greatest);
        Check.sentence("of a page (the first and the last)", Promise10SumTest::firstAndLast);
        Check.sentence("throws IndexOutOfBoundsException", Promise10SumTest::wrongPages);
        Check.end();
    }

    private static void weighsEachPlace() {
        for (int i = 0; i < 4096; i++) {
            SharedMemory m = new SharedMemory(3);
            m.store(Check.EDGE + i, 1, 200);
            Check.same("byte " + i, m.sum(1), 200L * (i + 1));
            Check.same("the page before", m.sum(0), 0);
            Check.same("the page behind", m.sum(2), 0);
        }
    }

    private static void addsAllBytes() {
        SharedMemory m = new SharedMemory(1);
        long due = 0;
        for (int i = 0; i < 400; i++) {
            int place = i * 41 % 4096;
            int v = i * 7 + 129 & 255;
            due += (long) (place + 1) * v;
            m.store(Check.BASE + place, 1, v);
        }
        Check.same("400 bytes", m.sum(0), due);
        Check.same("asking changes nothing", m.sum(0), due);
    }

    private static void bytesHaveNoSign() {
        for (int v = 0; v < 256; v++) {
            SharedMemory m = new SharedMemory(1);
            m.store(Check.BASE + 7, 1, v);
            m.store(Check.BASE + 4095, 1, v);
            Check.same("byte " + v, m.sum(0), 8L * v + 4096L * v);
        }
    }

    private static void noneButZero() {
        SharedMemory m = new SharedMemory(1);
        Check.same("a new object", m.sum(0), 0);
        m.store(Check.AT, 8, 0);
        Check.same("a 0 stored", m.sum(0), 0);
        m.store(Check.AT, 8, -1);
        m.fill(Check.BASE, Check.EDGE, 0);
        Check.same("all 0 again", m.sum(0), 0);
    }

    private static void greatest() {
        SharedMemory m = new SharedMemory(1);
        m.fill(Check.BASE, Check.EDGE, 255);
        Check.same("all 255", m.sum(0), 255 * ONES);
        m.store(Check.BASE + 4095, 1, 0);
        Check.same("but for the last", m.sum(0), 255 * (ONES - 4096));
        m.store(Check.BASE + 4095, 1, 255);
        m.store(Check.BASE, 1, 0);
        Check.same("but for the first", m.sum(0), 255 * (ONES - 1));
    }

    private static void firstAndLast() {
        for (int pages : new int[] {1, 2, 1024}) {
            SharedMemory m = new SharedMemory(pages);
            m.fill(Check.BASE, Check.BASE + pages * Check.PAGE, 1);
            Check.same("the first", m.sum(0), ONES);
            Check.same("the last", m.sum(pages - 1), ONES);
            Check.fails("before the first", Check.INDEX, () -> m.sum(-1));
            Check.fails("behind the last", Check.INDEX, () -> m.sum(pages));
        }
    }

    private static void wrongPages() {
        for (int page : new int[] {-1, 2, 3, 1023, 1024, -2, Integer.MAX_VALUE, Integer.MIN_VALUE}) {
            Check.refused("sum " + page, Check.INDEX, m -> m.sum(page));
        }
    }
}
