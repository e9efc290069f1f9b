/** Promise 7: drop. */
public final class Promise07DropTest {
    private static final long AT = Check.BASE + 24;

    public static void main(String[] args) {
        for (int p = 0; p < 4; p++) {
            dropsOne(p);
        }
        hasNoneAfterALoss();
        wrongProcessors();
        Check.end();
    }

    private static void dropsOne(int p) {
        SharedMemory m = new SharedMemory(1);
        for (int other = 0; other < 4; other++) {
            m.atomic(other, 2, AT, 8, 0);
        }
        Check.same("had one", m.drop(p), true);
        Check.same("has none", m.reserved(p), 0);
        Check.same("had none", m.drop(p), false);
        for (int other = 0; other < 4; other++) {
            Check.same("others keep theirs", m.reserved(other), other == p ? 0 : AT);
        }
        Check.same("a conditional store fails", m.atomic(p, 3, AT, 8, 1), 1);
        Check.same("dropping is no write", m.writes(0), 0);
    }

    private static void hasNoneAfterALoss() {
        SharedMemory m = new SharedMemory(1);
        m.atomic(0, 2, AT, 4, 0);
        m.store(AT + 7, 1, 0);
        Check.same("lost by a store", m.drop(0), false);
        m.atomic(0, 2, AT, 4, 0);
        m.atomic(0, 3, AT, 4, 0);
        Check.same("lost by a conditional store", m.drop(0), false);
    }

    private static void wrongProcessors() {
        SharedMemory m = new SharedMemory(1);
        m.atomic(0, 2, AT, 8, 0);
        m.atomic(3, 2, AT, 8, 0);
        for (int p : new int[] {-1, 4, 5, Integer.MAX_VALUE, Integer.MIN_VALUE}) {
            Check.failsAndKeeps("drop " + p, Check.INDEX, m, () -> m.drop(p));
        }
    }
}
