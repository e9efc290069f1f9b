/** Promise 1: A new object. */
public final class Promise01NewObjectTest {
    public static void main(String[] args) {
        Check.sentence("Memory of so many pages", Promise01NewObjectTest::hasSoManyPages);
        Check.sentence("1024 if pages is not 1 .. 1024 (too few)", Promise01NewObjectTest::has1024IfTooFew);
        Check.sentence("1024 if pages is not 1 .. 1024 (too many)", Promise01NewObjectTest::has1024IfTooMany);
        Check.sentence("A new object", Promise01NewObjectTest::objectsAreApart);
        Check.end();
    }

    private static void hasSoManyPages() {
        for (int n = 1; n <= 1024; n++) {
            hasSize(n, n);
        }
    }

    private static void has1024IfTooFew() {
        for (int n : new int[] {0, -1, -2, -1024, -65536, Integer.MIN_VALUE, Integer.MIN_VALUE + 1}) {
            hasSize(n, 1024);
        }
    }

    private static void has1024IfTooMany() {
        for (int n : new int[] {1025, 1026, 2048, 4096, 65536, 65537, 1 << 20, (1 << 20) + 1, 1 << 30,
                Integer.MAX_VALUE}) {
            hasSize(n, 1024);
        }
    }

    private static void hasSize(int asked, int due) {
        SharedMemory m = new SharedMemory(asked);
        String what = "new SharedMemory(" + asked + ")";
        long end = Check.BASE + due * Check.PAGE;
        Check.same(what + " pages", m.pages(), due);
        Check.same(what + " used", m.used(), 0);
        m.store(end - 8, 8, -2);
        Check.same(what + " the last eight bytes", m.load(end - 8, 8), -2);
        Check.same(what + " the last page", m.writes(due - 1), 1);
        Check.fails(what + " behind the last byte", Check.INDEX, () -> m.load(end, 1));
        Check.fails(what + " behind the last page", Check.INDEX, () -> m.writes(due));
    }

    private static void objectsAreApart() {
        SharedMemory a = new SharedMemory(1);
        SharedMemory b = new SharedMemory(1);
        a.store(Check.BASE, 8, 5);
        a.atomic(0, Check.RESERVE, Check.BASE, 8, 0);
        SharedMemory c = new SharedMemory(1);
        for (SharedMemory other : new SharedMemory[] {b, c}) {
            Check.same("the other's byte", other.load(Check.BASE, 8), 0);
            Check.same("the other's reservation", other.reserved(0), 0);
            Check.same("the other's writes", other.writes(0), 0);
            Check.same("the other's pages used", other.used(), 0);
            other.store(Check.BASE, 8, 6);
        }
        Check.same("its own byte", a.load(Check.BASE, 8), 5);
        Check.same("its own reservation", a.reserved(0), Check.BASE);
    }
}
