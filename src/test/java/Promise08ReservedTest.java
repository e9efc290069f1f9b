/** Promise 8: reserved. */
public final class Promise08ReservedTest {
    public static void main(String[] args) {
        answersTheAddress();
        wrongProcessors();
        Check.end();
    }

    private static void answersTheAddress() {
        SharedMemory m = new SharedMemory(2);
        long end = Check.BASE + 2 * Check.PAGE;
        m.atomic(0, 2, Check.BASE, 8, 0);
        m.atomic(1, 2, end - 4, 4, 0);
        m.atomic(2, 2, end - 8, 8, 0);
        Check.same("the first address", m.reserved(0), Check.BASE);
        Check.same("the last four", m.reserved(1), end - 4);
        Check.same("the last eight", m.reserved(2), end - 8);
        Check.same("none", m.reserved(3), 0);
        Check.same("asking keeps it", m.reserved(0), Check.BASE);
        m.store(Check.BASE + 8, 8, 1);
        Check.same("a store behind it keeps it", m.reserved(0), Check.BASE);
        m.store(Check.BASE + 7, 1, 1);
        Check.same("a store into it loses it", m.reserved(0), 0);
        m.fill(end - 1, end, 0);
        Check.same("a fill loses it", m.reserved(1), 0);
        Check.same("a fill loses the other", m.reserved(2), 0);
    }

    private static void wrongProcessors() {
        SharedMemory m = new SharedMemory(1);
        for (int p : new int[] {-1, 4, 5, Integer.MAX_VALUE, Integer.MIN_VALUE}) {
            Check.failsAndKeeps("reserved " + p, Check.INDEX, m, () -> m.reserved(p));
        }
    }
}
