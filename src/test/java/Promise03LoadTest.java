/** Promise 3: load. */
public final class Promise03LoadTest {
    private static final int[] WRONG_SIZES = {0, 3, 5, 6, 7, 9, 16, -1, -4, -8, 64, Integer.MAX_VALUE, Integer.MIN_VALUE};

    public static void main(String[] args) {
        lowestByteComesFirst();
        everyPlaceAndSize();
        hasNoSign();
        crossesPages();
        edges();
        wrongSizes();
        changesNothing();
        Check.end();
    }

    private static void lowestByteComesFirst() {
        SharedMemory m = new SharedMemory(1);
        for (int i = 0; i < 8; i++) {
            m.store(Check.BASE + i, 1, i + 1);
        }
        Check.same("1 byte", m.load(Check.BASE, 1), 0x01);
        Check.same("2 bytes", m.load(Check.BASE, 2), 0x0201);
        Check.same("4 bytes", m.load(Check.BASE, 4), 0x04030201);
        Check.same("8 bytes", m.load(Check.BASE, 8), 0x0807060504030201L);
    }

    private static void everyPlaceAndSize() {
        SharedMemory m = new SharedMemory(1);
        for (int i = 0; i < 32; i++) {
            m.store(Check.BASE + i, 1, 200 + i);
        }
        for (int size : new int[] {1, 2, 4, 8}) {
            for (int at = 0; at + size <= 32; at++) {
                long due = 0;
                for (int i = size - 1; i >= 0; i--) {
                    due = due << 8 | (200 + at + i) & 255;
                }
                Check.same("load " + at + " " + size, m.load(Check.BASE + at, size), due);
            }
        }
    }

    private static void hasNoSign() {
        SharedMemory m = new SharedMemory(1);
        m.fill(Check.BASE, Check.BASE + 16, 255);
        for (int at = 0; at < 8; at++) {
            Check.same("byte", m.load(Check.BASE + at, 1), 0xffL);
            Check.same("two", m.load(Check.BASE + at, 2), 0xffffL);
            Check.same("four", m.load(Check.BASE + at, 4), 0xffffffffL);
            Check.same("eight is what it is", m.load(Check.BASE + at, 8), -1L);
        }
    }

    private static void crossesPages() {
        SharedMemory m = new SharedMemory(2);
        long edge = Check.BASE + Check.PAGE;
        m.store(edge - 1, 1, 0x11);
        m.store(edge, 1, 0x22);
        Check.same("2 over the edge", m.load(edge - 1, 2), 0x2211);
        Check.same("4 over the edge", m.load(edge - 3, 4), 0x22110000L);
        Check.same("8 over the edge", m.load(edge - 4, 8), 0x2211000000L);
    }

    private static void edges() {
        SharedMemory m = new SharedMemory(2);
        long end = Check.BASE + 2 * Check.PAGE;
        m.fill(Check.BASE, end, 7);
        for (int size : new int[] {1, 2, 4, 8}) {
            Check.isTrue("first " + size, m.load(Check.BASE, size) != 0);
            Check.isTrue("last " + size, m.load(end - size, size) != 0);
            for (long at : new long[] {Check.BASE - 1, end - size + 1, end, 0, -1, 7, Check.BASE - size,
                    -Check.BASE, Check.BASE + (1L << 32), Check.BASE + (1L << 63), Long.MAX_VALUE,
                    Long.MAX_VALUE - 7, Long.MIN_VALUE, Long.MIN_VALUE + Check.BASE}) {
                Check.failsAndKeeps("load " + at + " " + size, Check.INDEX, m, () -> m.load(at, size));
            }
        }
    }

    private static void wrongSizes() {
        SharedMemory m = new SharedMemory(1);
        for (int size : WRONG_SIZES) {
            Check.failsAndKeeps("size " + size, Check.ARGUMENT, m, () -> m.load(Check.BASE, size));
            Check.failsAnswer("size " + size + " nowhere", Check.ARGUMENT, () -> m.load(3, size));
        }
    }

    private static void changesNothing() {
        SharedMemory m = new SharedMemory(1);
        m.store(Check.BASE + 8, 8, 77);
        m.atomic(2, 2, Check.BASE + 8, 8, 0);
        m.load(Check.BASE + 8, 8);
        Check.same("writes after load", m.writes(0), 1);
        Check.same("reserved after load", m.reserved(2), Check.BASE + 8);
    }
}
