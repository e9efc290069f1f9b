/** "Terms", its fourth paragraph: what counts as one of the WRITES of a page. */
public final class TermsWritesTest {
    private static final long EDGE = Check.EDGE;

    public static void main(String[] args) {
        Check.sentence("each store() .. counts 1 for each page that one of its bytes lies in",
            TermsWritesTest::eachStoreCounts);
        Check.sentence("each conditional one that succeeds .. counts 1", TermsWritesTest::eachConditionalCounts);
        Check.sentence("each atomic change counts 1", TermsWritesTest::eachChangeCounts);
        Check.sentence("also if the bytes are as before", TermsWritesTest::sameBytesCount);
        Check.sentence("fill() 1 for each page that it reaches", TermsWritesTest::fillCountsOnceForEachPage);
        Check.sentence("at first 0", TermsWritesTest::zeroAtFirst);
        Check.sentence("how many times something was stored into it (and nothing else counts)",
            TermsWritesTest::nothingElseCounts);
        Check.end();
    }

    private static void counts(String what, SharedMemory m, long... due) {
        for (int page = 0; page < due.length; page++) {
            Check.same(what + ", page " + page, m.writes(page), due[page]);
        }
    }

    private static void eachStoreCounts() {
        for (int size : Check.SIZES) {
            for (long at = EDGE - 9; at <= EDGE + 1; at++) {
                SharedMemory m = new SharedMemory(3);
                m.store(at, size, -1);
                counts("store " + size + " at " + at, m, at < EDGE ? 1 : 0, at + size > EDGE ? 1 : 0, 0);
                m.store(at, size, -1);
                counts("twice", m, at < EDGE ? 2 : 0, at + size > EDGE ? 2 : 0, 0);
            }
            SharedMemory m = new SharedMemory(2);
            m.store(Check.BASE, size, 1);
            m.store(Check.END - size, size, 1);
            counts("the first and the last of memory", m, 1, 1);
        }
        SharedMemory m = new SharedMemory(1);
        for (int i = 0; i < 511; i++) {
            m.store(Check.BASE + i, 8, i);
        }
        counts("511 stores", m, 511);
    }

    private static void eachConditionalCounts() {
        for (int size : Check.ATOMIC_SIZES) {
            SharedMemory m = new SharedMemory(3);
            m.atomic(0, Check.RESERVE, EDGE - size, size, 0);
            m.atomic(0, Check.CONDITIONAL, EDGE - size, size, 5);
            counts("the last of a page", m, 1, 0, 0);
            m.atomic(1, Check.RESERVE, EDGE, size, 0);
            m.atomic(1, Check.CONDITIONAL, EDGE, size, 5);
            counts("the first of a page", m, 1, 1, 0);
            m.atomic(1, Check.CONDITIONAL, EDGE, size, 6);
            counts("one that fails", m, 1, 1, 0);
        }
    }

    private static void eachChangeCounts() {
        for (int kind : Check.CHANGES) {
            for (int size : Check.ATOMIC_SIZES) {
                SharedMemory m = new SharedMemory(3);
                m.atomic(3, kind, EDGE - size, size, 5);
                counts("kind " + kind + ", the last of a page", m, 1, 0, 0);
                m.atomic(3, kind, EDGE, size, 5);
                m.atomic(3, kind, EDGE, size, 5);
                counts("kind " + kind + ", the first of a page", m, 1, 2, 0);
            }
        }
    }

    private static void sameBytesCount() {
        SharedMemory m = new SharedMemory(2);
        m.store(EDGE - 4, 8, 0);
        counts("a 0 into a new memory", m, 1, 1);
        m.fill(EDGE - 4, EDGE + 4, 0);
        counts("fill with 0 of a new memory", m, 2, 2);
        m.fill(Check.BASE, Check.END, 0);
        counts("fill with 0 of whole pages", m, 3, 3);
        m.fill(Check.BASE, Check.END, 9);
        m.fill(Check.BASE, Check.END, 9);
        counts("the same fill twice", m, 5, 5);
        m.store(EDGE - 4, 8, 0x0909090909090909L);
        counts("store of what is there", m, 6, 6);
        m.atomic(0, Check.RESERVE, EDGE, 8, 0);
        m.atomic(0, Check.CONDITIONAL, EDGE, 8, 0x0909090909090909L);
        counts("conditional store of what is there", m, 6, 7);
        long[] operands = {0, 0x0909090909090909L, 0, 0, -1, Long.MAX_VALUE, Long.MIN_VALUE, -1, 0};
        for (int i = 0; i < operands.length; i++) {
            m.atomic(0, Check.CHANGES[i], EDGE, 8, operands[i]);
            Check.same("the number is as before", m.load(EDGE, 8), 0x0909090909090909L);
            counts("kind " + Check.CHANGES[i] + " that changes nothing", m, 6, 8 + i);
        }
    }

    private static void fillCountsOnceForEachPage() {
        long start = EDGE;
        long end = EDGE + 2 * Check.PAGE;
        fillCounts("two whole pages", start, end, 0, 1, 1, 0);
        fillCounts("one byte more before", start - 1, end, 1, 1, 1, 0);
        fillCounts("one byte more behind", start, end + 1, 0, 1, 1, 1);
        fillCounts("one byte less before", start + 1, end, 0, 1, 1, 0);
        fillCounts("one byte less behind", start, end - 1, 0, 1, 1, 0);
        fillCounts("the last of one, the first of the next", start - 1, start + 1, 1, 1, 0, 0);
        fillCounts("up to a page's edge", start - 1, start, 1, 0, 0, 0);
        fillCounts("from a page's edge on", start, start + 1, 0, 1, 0, 0);
        fillCounts("all", Check.BASE, Check.BASE + 4 * Check.PAGE, 1, 1, 1, 1);
        for (int half = 0; half < 2; half++) {
            SharedMemory m = new SharedMemory(1024);
            m.fill(Check.BASE + 4095, Check.BASE + 1023 * Check.PAGE + 1, 3);
            m.fill(Check.BASE, Check.BASE + 1024 * Check.PAGE, 3);
            for (int page = 510 * half; page < 510 * half + 510; page++) {
                Check.same("of 1024, page " + page, m.writes(page), 2);
            }
        }
        SharedMemory m = new SharedMemory(1024);
        m.fill(Check.BASE, Check.BASE + 1024 * Check.PAGE, 3);
        for (int page = 1020; page < 1024; page++) {
            Check.same("of 1024, page " + page, m.writes(page), 1);
        }
    }

    private static void fillCounts(String what, long from, long to, long... due) {
        SharedMemory m = new SharedMemory(4);
        m.fill(from, to, 1);
        counts(what, m, due);
    }

    private static void zeroAtFirst() {
        for (int half = 0; half < 2; half++) {
            SharedMemory m = new SharedMemory(1024);
            for (int page = 512 * half; page < 512 * half + 512; page++) {
                Check.same("page " + page, m.writes(page), 0);
            }
        }
        SharedMemory m = new SharedMemory(3);
        m.store(EDGE, 1, 1);
        counts("beside one that was stored into", m, 0, 1, 0);
    }

    private static void nothingElseCounts() {
        SharedMemory m = new SharedMemory(2);
        m.fill(EDGE, EDGE, 1);
        m.fill(EDGE + 5, EDGE + 5, 1);
        counts("fill of no byte", m, 0, 0);
        m.load(EDGE - 4, 8);
        counts("load", m, 0, 0);
        m.atomic(0, Check.RESERVE, EDGE, 8, 1);
        counts("a reservation", m, 0, 0);
        m.atomic(1, Check.CONDITIONAL, EDGE, 8, 1);
        counts("a conditional store without a reservation", m, 0, 0);
        m.atomic(0, Check.CONDITIONAL, EDGE, 4, 1);
        counts("a conditional store of another size", m, 0, 0);
        m.atomic(0, Check.RESERVE, EDGE, 8, 1);
        m.drop(0);
        counts("drop", m, 0, 0);
        m.sum(0);
        m.used();
        m.writes(1);
        counts("questions", m, 0, 0);
        Check.refused("a store that throws", Check.INDEX, n -> n.store(Check.END - 7, 8, 1));
        Check.refused("a fill that throws", Check.INDEX, n -> n.fill(Check.BASE, Check.END + 1, 1));
        Check.refused("an atomic change that throws", Check.STATE, n -> n.atomic(0, Check.ADD, Check.AT + 4, 8, 1));
    }
}
