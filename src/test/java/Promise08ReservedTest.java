/** Promise 8: reserved. */
public final class Promise08ReservedTest {
    public static void main(String[] args) {
        Check.sentence("The address that a processor has a reservation of", Promise08ReservedTest::answersTheAddress);
        Check.sentence("0 when it has none. (a new object)", Promise08ReservedTest::zeroAtFirst);
        Check.sentence("0 when it has none. (it had one)", Promise08ReservedTest::zeroWhenItIsGone);
        Check.sentence("throws IndexOutOfBoundsException", Promise08ReservedTest::wrongProcessors);
        Check.end();
    }

    private static void answersTheAddress() {
        long last = Check.BASE + 1024 * Check.PAGE;
        for (long at : new long[] {Check.BASE, Check.BASE + 4, Check.EDGE - 4, Check.EDGE, last - 8, last - 4}) {
            for (int p = 0; p < 4; p++) {
                SharedMemory m = new SharedMemory(1024);
                m.atomic(p, Check.RESERVE, at, 4, 0);
                Check.same("four", m.reserved(p), at);
                Check.same("asking keeps it", m.reserved(p), at);
                if (at % 8 == 0) {
                    m.atomic(p, Check.RESERVE, at, 8, 0);
                    Check.same("eight", m.reserved(p), at);
                }
            }
        }
    }

    private static void zeroAtFirst() {
        for (int p = 0; p < 4; p++) {
            SharedMemory m = new SharedMemory(1);
            Check.same("a new object", m.reserved(p), 0);
            m.atomic((p + 3) % 4, Check.RESERVE, Check.AT, 8, 0);
            Check.same("another has one", m.reserved(p), 0);
        }
    }

    private static void zeroWhenItIsGone() {
        SharedMemory m = new SharedMemory(1);
        m.atomic(1, Check.RESERVE, Check.AT, 8, 0);
        m.drop(1);
        Check.same("dropped", m.reserved(1), 0);
        m.atomic(1, Check.RESERVE, Check.AT, 8, 0);
        m.store(Check.AT + 7, 1, 0);
        Check.same("lost by a store", m.reserved(1), 0);
        m.atomic(1, Check.RESERVE, Check.AT, 8, 0);
        m.atomic(1, Check.CONDITIONAL, Check.AT, 8, 0);
        Check.same("used up", m.reserved(1), 0);
        m.atomic(1, Check.RESERVE, Check.AT, 8, 0);
        m.atomic(1, Check.CONDITIONAL, Check.AT, 4, 0);
        Check.same("used up in vain", m.reserved(1), 0);
    }

    private static void wrongProcessors() {
        for (int p : Check.WRONG_PROCESSORS) {
            Check.refused("reserved " + p, Check.INDEX, m -> m.reserved(p));
        }
    }
}
