/** Promise 4: store. */
public final class Promise04StoreTest {
    private static final long V = 0x8899aabbccddeeffL;

    public static void main(String[] args) {
        Check.sentence("The lowest size bytes of v are stored at an address.", Promise04StoreTest::storesJustItsBytes);
        Check.sentence("The lowest size bytes of v (the others do not count)",
            Promise04StoreTest::higherBytesDoNotCount);
        Check.sentence("at an address (over the edge of a page)", Promise04StoreTest::crossesPages);
        Check.sentence("at an address (the first and the last of memory)", Promise04StoreTest::firstAndLast);
        Check.sentence("throws IllegalArgumentException", Promise04StoreTest::wrongSizes);
        Check.sentence("throws IndexOutOfBoundsException", Promise04StoreTest::notInMemory);
        Check.end();
    }

    /** At every place in eight bytes and for every size just the bytes of the number change. */
    private static void storesJustItsBytes() {
        for (int size : Check.SIZES) {
            for (int at = 8; at < 24; at++) {
                SharedMemory m = new SharedMemory(1);
                m.fill(Check.BASE, Check.BASE + 40, 0x55);
                m.store(Check.BASE + at, size, V);
                for (int i = 0; i < 40; i++) {
                    boolean inside = i >= at && i < at + size;
                    long due = inside ? V >>> 8 * (i - at) & 255 : 0x55;
                    Check.same("store " + at + " " + size + " byte " + i, m.load(Check.BASE + i, 1), due);
                }
            }
        }
    }

    private static void higherBytesDoNotCount() {
        for (long v : new long[] {-1, 256, 255, 65536, 65535, 1L << 32, (1L << 32) - 1, Long.MIN_VALUE, V, 0}) {
            for (int size : Check.SIZES) {
                SharedMemory m = new SharedMemory(1);
                m.store(Check.AT + 3, size, v);
                Check.same("load of " + v, m.load(Check.AT + 3, size), v & -1L >>> 64 - 8 * size);
                Check.same("behind " + v, m.load(Check.AT + 3 + size, 8), 0);
                Check.same("before " + v, m.load(Check.AT - 5, 8), 0);
            }
        }
    }

    private static void crossesPages() {
        for (int size : new int[] {2, 4, 8}) {
            for (int before = 1; before < size; before++) {
                SharedMemory m = new SharedMemory(2);
                m.store(Check.EDGE - before, size, V);
                for (int i = 0; i < size; i++) {
                    Check.same("byte " + i, m.load(Check.EDGE - before + i, 1), V >>> 8 * i & 255);
                }
                Check.same("before it", m.load(Check.EDGE - before - 8, 8), 0);
                Check.same("behind it", m.load(Check.EDGE - before + size, 8), 0);
                Check.same("used", m.used(), 2);
            }
        }
    }

    private static void firstAndLast() {
        for (int size : Check.SIZES) {
            for (int pages : new int[] {1, 2, 1024, 0}) {
                SharedMemory m = new SharedMemory(pages);
                long end = Check.BASE + m.pages() * Check.PAGE;
                m.store(Check.BASE, size, V);
                m.store(end - size, size, V);
                Check.same("the first", m.load(Check.BASE, size), V & -1L >>> 64 - 8 * size);
                Check.same("the last", m.load(end - size, size), V & -1L >>> 64 - 8 * size);
            }
        }
    }

    private static void wrongSizes() {
        for (int size : Check.WRONG_SIZES) {
            Check.refused("size " + size, Check.ARGUMENT, m -> m.store(Check.BASE, size, -1));
            Check.refused("size " + size + " nowhere", Check.ARGUMENT, m -> m.store(1, size, -1));
        }
    }

    private static void notInMemory() {
        for (int size : Check.SIZES) {
            for (long at : Check.notInMemory(size, Check.END)) {
                Check.refused("store " + at + " " + size, Check.INDEX, m -> m.store(at, size, -1));
            }
        }
    }
}
