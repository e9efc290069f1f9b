/** "What it is": an object is used for at most 512 calls, so the 512th must still be answered as any other. */
public final class LastCallTest {
    private static final int CALLS = 512;
    private static final long END = Check.BASE + 1024 * Check.PAGE;

    public static void main(String[] args) {
        Check.sentence("at most 512 calls (stores over the edges of pages)", LastCallTest::storesOverEdges);
        Check.sentence("at most 512 calls (fills of all of memory)", LastCallTest::fillsOfAll);
        Check.sentence("at most 512 calls (one byte and all of memory in turn)", LastCallTest::bytesAndFillsInTurn);
        Check.sentence("at most 512 calls (reservations)", LastCallTest::reservations);
        Check.sentence("at most 512 calls (calls that throw)", LastCallTest::callsThatThrow);
        Check.end();
    }

    static void storesOverEdges() {
        SharedMemory m = new SharedMemory(1024);
        for (int i = 0; i < CALLS - 1; i++) {
            m.store(Check.BASE + (2 * i + 1) * Check.PAGE - 4, 8, -1);
        }
        Check.same("pages used by 511 stores", m.used(), 1022);
    }

    static void fillsOfAll() {
        SharedMemory m = new SharedMemory(1024);
        for (int i = 0; i < CALLS - 1; i++) {
            m.fill(Check.BASE + i, END - i, i);
        }
        Check.same("writes of 511 fills", m.writes(512), 511);
    }

    static void bytesAndFillsInTurn() {
        SharedMemory m = new SharedMemory(1024);
        for (int i = 0; i < CALLS / 2 - 1; i++) {
            m.fill(Check.BASE, END, 1);
            m.store(END - 1 - i * Check.PAGE, 1, 2);
        }
        m.fill(Check.BASE, END, 1);
        Check.same("the sum after 511 calls", m.sum(1023), 8390656L);
    }

    static void reservations() {
        SharedMemory m = new SharedMemory(1);
        for (int i = 0; i < CALLS / 2; i++) {
            Check.same("reserve", m.atomic(i % 4, Check.RESERVE, Check.AT, 8, 0), i);
            Check.same("conditional", m.atomic(i % 4, Check.CONDITIONAL, Check.AT, 8, i + 1), 0);
        }
    }

    static void callsThatThrow() {
        SharedMemory m = new SharedMemory(1);
        for (int i = 0; i < CALLS - 1; i++) {
            Check.fails("store", Check.INDEX, () -> m.store(0, 8, 1));
        }
        Check.same("pages used", m.used(), 0);
    }
}
