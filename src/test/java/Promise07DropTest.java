/** Promise 7: drop. */
public final class Promise07DropTest {
    private static final long AT = Check.AT;

    public static void main(String[] args) {
        Check.sentence("A processor has no reservation any more.", Promise07DropTest::hasNoneAnyMore);
        Check.sentence("Answers whether it had one. (it had)", Promise07DropTest::answersThatItHadOne);
        Check.sentence("Answers whether it had one. (it never had)", Promise07DropTest::answersThatItNeverHad);
        Check.sentence("Answers whether it had one. (it was lost)", Promise07DropTest::answersThatItWasLost);
        Check.sentence("throws IndexOutOfBoundsException", Promise07DropTest::wrongProcessors);
        Check.end();
    }

    private static void hasNoneAnyMore() {
        for (int p = 0; p < 4; p++) {
            SharedMemory m = new SharedMemory(1);
            for (int other = 0; other < 4; other++) {
                m.atomic(other, Check.RESERVE, AT, 8, 0);
            }
            m.drop(p);
            for (int other = 0; other < 4; other++) {
                Check.same("reserved " + other, m.reserved(other), other == p ? 0 : AT);
            }
            Check.same("a conditional store fails", m.atomic(p, Check.CONDITIONAL, AT, 8, 1), 1);
            Check.same("dropping is no write", m.writes(0), 0);
            m.atomic(p, Check.RESERVE, AT, 8, 0);
            Check.same("it can have one again", m.reserved(p), AT);
        }
    }

    private static void answersThatItHadOne() {
        for (int p = 0; p < 4; p++) {
            for (int size : Check.ATOMIC_SIZES) {
                for (long at : new long[] {Check.BASE, AT, Check.EDGE - size}) {
                    SharedMemory m = new SharedMemory(1);
                    m.atomic(p, Check.RESERVE, at, size, 0);
                    Check.same("had one at " + at, m.drop(p), true);
                    Check.same("had none the second time", m.drop(p), false);
                }
            }
        }
    }

    private static void answersThatItNeverHad() {
        for (int p = 0; p < 4; p++) {
            SharedMemory m = new SharedMemory(1);
            Check.same("a new object", m.drop(p), false);
            m.atomic((p + 1) % 4, Check.RESERVE, AT, 8, 0);
            Check.same("another has one", m.drop(p), false);
            m.atomic(p, Check.ADD, AT, 8, 1);
            Check.same("a change reserves nothing", m.drop(p), false);
        }
    }

    private static void answersThatItWasLost() {
        SharedMemory m = new SharedMemory(1);
        m.atomic(0, Check.RESERVE, AT, 4, 0);
        m.store(AT + 7, 1, 0);
        Check.same("lost by a store", m.drop(0), false);
        m.atomic(0, Check.RESERVE, AT, 4, 0);
        m.fill(AT + 7, AT + 8, 0);
        Check.same("lost by a fill", m.drop(0), false);
        m.atomic(0, Check.RESERVE, AT, 4, 0);
        m.atomic(0, Check.CONDITIONAL, AT, 4, 0);
        Check.same("lost by a conditional store", m.drop(0), false);
        m.atomic(0, Check.RESERVE, AT, 4, 0);
        m.atomic(0, Check.CONDITIONAL, AT + 4, 4, 0);
        Check.same("lost by a conditional store that fails", m.drop(0), false);
        m.atomic(0, Check.RESERVE, AT, 4, 0);
        m.atomic(1, Check.ADD, AT + 4, 4, 0);
        Check.same("lost by a change", m.drop(0), false);
    }

    private static void wrongProcessors() {
        for (int p : Check.WRONG_PROCESSORS) {
            Check.refused("drop " + p, Check.INDEX, m -> m.drop(p));
        }
    }
}
