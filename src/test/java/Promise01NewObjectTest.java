/** Promise 1: A new object. */
public final class Promise01NewObjectTest {
    public static void main(String[] args) {
        for (int n : new int[] {1, 2, 3, 512, 1023, 1024}) {
            hasSize(n, n);
        }
        for (int n : new int[] {0, -1, 1025, 1026, 4096, -1024, Integer.MAX_VALUE, Integer.MIN_VALUE}) {
            hasSize(n, 1024);
        }
        isEmptyAtFirst();
        objectsAreApart();
        Check.end();
    }

    private static void hasSize(int asked, int due) {
        SharedMemory m = new SharedMemory(asked);
        String what = "new SharedMemory(" + asked + ")";
        long end = Check.BASE + due * Check.PAGE;
        Check.same(what + " pages", m.pages(), due);
        Check.same(what + " first byte", m.load(Check.BASE, 1), 0);
        Check.same(what + " last byte", m.load(end - 1, 1), 0);
        Check.failsAnswer(what + " before the first byte", Check.INDEX, () -> m.load(Check.BASE - 1, 1));
        Check.failsAnswer(what + " behind the last byte", Check.INDEX, () -> m.load(end, 1));
        Check.same(what + " last page", m.writes(due - 1), 0);
        Check.failsAnswer(what + " page behind the last", Check.INDEX, () -> m.writes(due));
        m.store(end - 8, 8, -2);
        Check.same(what + " last word", m.load(end - 8, 8), -2);
    }

    private static void isEmptyAtFirst() {
        SharedMemory m = new SharedMemory(3);
        Check.same("used", m.used(), 0);
        for (int page = 0; page < 3; page++) {
            Check.same("writes", m.writes(page), 0);
            Check.same("sum", m.sum(page), 0);
        }
        for (int p = 0; p < 4; p++) {
            Check.same("reserved", m.reserved(p), 0);
            Check.same("drop", m.drop(p), false);
        }
        for (long at = Check.BASE; at < Check.BASE + 3 * Check.PAGE; at += 8) {
            Check.same("load at first", m.load(at, 8), 0);
        }
    }

    private static void objectsAreApart() {
        SharedMemory a = new SharedMemory(1);
        SharedMemory b = new SharedMemory(1);
        a.store(Check.BASE, 8, 5);
        a.atomic(0, 2, Check.BASE, 8, 0);
        Check.same("the other's byte", b.load(Check.BASE, 8), 0);
        Check.same("the other's reservation", b.reserved(0), 0);
        Check.same("the other's writes", b.writes(0), 0);
    }
}
