/** Promise 2: pages. */
public final class Promise02PagesTest {
    public static void main(String[] args) {
        Check.sentence("How many pages it has.", Promise02PagesTest::answersHowMany);
        Check.sentence("How many pages it has. (whatever was done)", Promise02PagesTest::staysTheSame);
        Check.end();
    }

    private static void answersHowMany() {
        for (int n = 1; n <= 1024; n++) {
            Check.same("pages of " + n, new SharedMemory(n).pages(), n);
        }
        for (int n : new int[] {0, -1, 1025, Integer.MAX_VALUE, Integer.MIN_VALUE}) {
            Check.same("pages of " + n, new SharedMemory(n).pages(), 1024);
        }
    }

    private static void staysTheSame() {
        SharedMemory m = new SharedMemory(5);
        m.fill(Check.BASE, Check.BASE + 5 * Check.PAGE, 9);
        m.atomic(1, Check.RESERVE, Check.BASE, 4, 0);
        m.store(Check.BASE, 8, 0);
        Check.fails("a store behind the end", Check.INDEX, () -> m.store(Check.BASE + 5 * Check.PAGE, 1, 0));
        Check.same("pages after other calls", m.pages(), 5);
    }
}
