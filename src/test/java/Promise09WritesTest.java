/** Promise 9: writes. */
public final class Promise09WritesTest {
    public static void main(String[] args) {
        countsEveryWay();
        countsAllPagesOfAFill();
        countsManyTimes();
        wrongPages();
        Check.end();
    }

    private static void countsEveryWay() {
        SharedMemory m = new SharedMemory(3);
        long at = Check.BASE + Check.PAGE;
        m.store(at, 1, 0);
        Check.same("a store of what was there", m.writes(1), 1);
        m.store(at - 1, 2, 5);
        Check.same("a store over the edge", m.writes(0), 1);
        Check.same("a store over the edge", m.writes(1), 2);
        m.fill(at + 8, at + 9, 0);
        Check.same("a fill", m.writes(1), 3);
        m.atomic(0, 2, at, 8, 0);
        Check.same("a reservation is none", m.writes(1), 3);
        m.atomic(0, 3, at, 8, 0);
        Check.same("a conditional store", m.writes(1), 4);
        m.atomic(0, 3, at, 8, 0);
        Check.same("one that fails is none", m.writes(1), 4);
        m.atomic(0, 8, at, 8, 0);
        Check.same("a change that changes nothing", m.writes(1), 5);
        Check.same("page before", m.writes(0), 1);
        Check.same("page behind", m.writes(2), 0);
    }

    private static void countsAllPagesOfAFill() {
        SharedMemory m = new SharedMemory(1024);
        m.fill(Check.BASE + 1, Check.BASE + 1024 * Check.PAGE - 1, 3);
        m.fill(Check.BASE, Check.BASE + 1024 * Check.PAGE, 3);
        for (int page = 0; page < 1024; page++) {
            Check.same("page " + page, m.writes(page), 2);
        }
    }

    private static void countsManyTimes() {
        SharedMemory m = new SharedMemory(1);
        for (int i = 0; i < 500; i++) {
            m.store(Check.BASE + i, 8, i);
        }
        Check.same("500 stores", m.writes(0), 500);
    }

    private static void wrongPages() {
        SharedMemory m = new SharedMemory(2);
        for (int page : new int[] {-1, 2, 3, 1023, 1024, Integer.MAX_VALUE, Integer.MIN_VALUE}) {
            Check.failsAndKeeps("writes " + page, Check.INDEX, m, () -> m.writes(page));
        }
    }
}
