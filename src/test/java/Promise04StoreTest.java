/** Promise 4: store. */
public final class Promise04StoreTest {
    private static final int[] WRONG_SIZES = {0, 3, 5, 6, 7, 9, 16, -1, -4, -8, Integer.MAX_VALUE, Integer.MIN_VALUE};

    public static void main(String[] args) {
        lowestBytesAreStored();
        crossesPages();
        losesReservations();
        losesReservationsOverAWordsEdge();
        edges();
        wrongSizes();
        Check.end();
    }

    /** At every place in a word and for every size just the bytes of the number change. */
    private static void lowestBytesAreStored() {
        long v = 0x8899aabbccddeeffL;
        for (int size : new int[] {1, 2, 4, 8}) {
            for (int at = 8; at < 24; at++) {
                SharedMemory m = new SharedMemory(1);
                m.fill(Check.BASE, Check.BASE + 40, 0x55);
                m.store(Check.BASE + at, size, v);
                for (int i = 0; i < 40; i++) {
                    boolean inside = i >= at && i < at + size;
                    long due = inside ? v >>> 8 * (i - at) & 255 : 0x55;
                    Check.same("store " + at + " " + size + " byte " + i, m.load(Check.BASE + i, 1), due);
                }
            }
        }
    }

    private static void crossesPages() {
        SharedMemory m = new SharedMemory(3);
        long edge = Check.BASE + 2 * Check.PAGE;
        m.store(edge - 5, 8, 0x0102030405060708L);
        Check.same("back as it was", m.load(edge - 5, 8), 0x0102030405060708L);
        Check.same("last of the page", m.load(edge - 1, 1), 4);
        Check.same("first of the next", m.load(edge, 1), 3);
        Check.same("writes 0", m.writes(0), 0);
        Check.same("writes 1", m.writes(1), 1);
        Check.same("writes 2", m.writes(2), 1);
        m.store(edge - 8, 8, 1);
        m.store(edge, 8, 1);
        Check.same("up to the edge", m.writes(1), 2);
        Check.same("from the edge on", m.writes(2), 2);
    }

    private static void losesReservations() {
        for (int at = 0; at < 24; at++) {
            SharedMemory m = new SharedMemory(1);
            m.atomic(0, 2, Check.BASE + 8, 8, 0);
            m.atomic(1, 2, Check.BASE + 8, 4, 0);
            m.atomic(2, 2, Check.BASE + 12, 4, 0);
            m.atomic(3, 2, Check.BASE + 16, 4, 0);
            // What is stored was there before: this loses the reservation all the same.
            m.store(Check.BASE + at, 1, 0);
            boolean hit = at >= 8 && at < 16;
            Check.same("8 at " + at, m.reserved(0), hit ? 0 : Check.BASE + 8);
            Check.same("low 4 at " + at, m.reserved(1), hit ? 0 : Check.BASE + 8);
            Check.same("high 4 at " + at, m.reserved(2), hit ? 0 : Check.BASE + 12);
            Check.same("next at " + at, m.reserved(3), at >= 16 ? 0 : Check.BASE + 16);
        }
    }

    private static void losesReservationsOverAWordsEdge() {
        SharedMemory m = new SharedMemory(2);
        long edge = Check.BASE + Check.PAGE;
        m.atomic(0, 2, edge - 16, 8, 0);
        m.atomic(1, 2, edge - 8, 4, 0);
        m.atomic(2, 2, edge + 4, 4, 0);
        m.atomic(3, 2, edge + 8, 8, 0);
        m.store(edge - 1, 2, 9);
        Check.same("word before", m.reserved(0), edge - 16);
        Check.same("first word", m.reserved(1), 0);
        Check.same("second word", m.reserved(2), 0);
        Check.same("word behind", m.reserved(3), edge + 8);
    }

    private static void edges() {
        SharedMemory m = new SharedMemory(2);
        long end = Check.BASE + 2 * Check.PAGE;
        m.atomic(1, 2, end - 8, 8, 0);
        m.atomic(2, 2, Check.BASE, 8, 0);
        for (int size : new int[] {1, 2, 4, 8}) {
            for (long at : new long[] {Check.BASE - 1, end - size + 1, end, 0, -1, Check.BASE - size, -Check.BASE,
                    Check.BASE + (1L << 32), Check.BASE + (1L << 63), Long.MAX_VALUE, Long.MIN_VALUE}) {
                Check.failsAndKeeps("store " + at + " " + size, Check.INDEX, m, () -> m.store(at, size, -1));
            }
        }
        m.store(Check.BASE, 1, 0x1ff);
        m.store(end - 1, 1, -2);
        Check.same("first", m.load(Check.BASE, 2), 255);
        Check.same("last", m.load(end - 2, 2), 0xfe00);
    }

    private static void wrongSizes() {
        SharedMemory m = new SharedMemory(1);
        m.atomic(0, 2, Check.BASE, 8, 0);
        for (int size : WRONG_SIZES) {
            Check.failsAndKeeps("size " + size, Check.ARGUMENT, m, () -> m.store(Check.BASE, size, -1));
            Check.failsAndKeeps("size " + size + " nowhere", Check.ARGUMENT, m, () -> m.store(1, size, -1));
        }
    }
}
