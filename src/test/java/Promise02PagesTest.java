/** Promise 2: pages. */
public final class Promise02PagesTest {
    public static void main(String[] args) {
        for (int n = 1; n <= 1024; n++) {
            Check.same("pages of " + n, new SharedMemory(n).pages(), n);
        }
        SharedMemory m = new SharedMemory(5);
        m.fill(Check.BASE, Check.BASE + 5 * Check.PAGE, 9);
        m.atomic(1, 2, Check.BASE, 4, 0);
        Check.same("pages after other calls", m.pages(), 5);
        Check.same("pages of -7", new SharedMemory(-7).pages(), 1024);
        Check.end();
    }
}
