/** Promise 9: writes. What counts as one is in TermsWritesTest. */
public final class Promise09WritesTest {
    public static void main(String[] args) {
        Check.sentence("How many writes a page had.", Promise09WritesTest::countsEveryWay);
        Check.sentence("How many writes a page had. (the first and the last page)", Promise09WritesTest::firstAndLast);
        Check.sentence("throws IndexOutOfBoundsException", Promise09WritesTest::wrongPages);
        Check.end();
    }

    private static void countsEveryWay() {
        SharedMemory m = new SharedMemory(3);
        long at = Check.EDGE;
        m.store(at, 1, 0);
        Check.same("a store of what was there", m.writes(1), 1);
        m.store(at - 1, 2, 5);
        Check.same("a store over the edge, before", m.writes(0), 1);
        Check.same("a store over the edge, behind", m.writes(1), 2);
        m.fill(at + 8, at + 9, 0);
        Check.same("a fill", m.writes(1), 3);
        m.atomic(0, Check.RESERVE, at, 8, 0);
        Check.same("a reservation is none", m.writes(1), 3);
        m.atomic(0, Check.CONDITIONAL, at, 8, 0);
        Check.same("a conditional store", m.writes(1), 4);
        m.atomic(0, Check.CONDITIONAL, at, 8, 0);
        Check.same("one that fails is none", m.writes(1), 4);
        m.atomic(0, 8, at, 8, 0);
        Check.same("a change that changes nothing", m.writes(1), 5);
        Check.same("the page before", m.writes(0), 1);
        Check.same("the page behind", m.writes(2), 0);
        m.fill(Check.BASE, Check.BASE + 3 * Check.PAGE, 0);
        Check.same("a fill with 0 does not clear the count", m.writes(1), 6);
    }

    private static void firstAndLast() {
        for (int pages : new int[] {1, 2, 1024}) {
            SharedMemory m = new SharedMemory(pages);
            m.store(Check.BASE, 8, 1);
            m.store(Check.BASE + pages * Check.PAGE - 8, 8, 1);
            Check.same("the first", m.writes(0), pages == 1 ? 2 : 1);
            Check.same("the last", m.writes(pages - 1), pages == 1 ? 2 : 1);
            Check.fails("before the first", Check.INDEX, () -> m.writes(-1));
            Check.fails("behind the last", Check.INDEX, () -> m.writes(pages));
        }
    }

    private static void wrongPages() {
        for (int page : new int[] {-1, 2, 3, 1023, 1024, -2, Integer.MAX_VALUE, Integer.MIN_VALUE}) {
            Check.refused("writes " + page, Check.INDEX, m -> m.writes(page));
        }
    }
}
