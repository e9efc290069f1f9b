/** Promise 3: load. */
public final class Promise03LoadTest {
    public static void main(String[] args) {
        Check.sentence("The number of size bytes at an address (any; so in store())",
            Promise03LoadTest::answersTheNumberAtAnyAddress);
        Check.sentence("at an address (any) (over the edge of a page)", Promise03LoadTest::crossesPages);
        Check.sentence("without sign", Promise03LoadTest::hasNoSign);
        Check.sentence("a long of eight bytes is what it is", Promise03LoadTest::eightBytesAreWhatTheyAre);
        Check.sentence("throws IllegalArgumentException", Promise03LoadTest::wrongSizes);
        Check.sentence("throws IndexOutOfBoundsException", Promise03LoadTest::notInMemory);
        Check.end();
    }

    private static void answersTheNumberAtAnyAddress() {
        SharedMemory m = new SharedMemory(1);
        for (int i = 0; i < 32; i++) {
            m.store(Check.BASE + i, 1, 200 + i);
            m.store(Check.EDGE - 32 + i, 1, 200 + i);
        }
        for (int size : Check.SIZES) {
            for (int at = 0; at + size <= 32; at++) {
                long due = 0;
                for (int i = size - 1; i >= 0; i--) {
                    due = due << 8 | (200 + at + i) & 255;
                }
                Check.same("load " + at + " " + size, m.load(Check.BASE + at, size), due);
                Check.same("at the end, load " + at + " " + size, m.load(Check.EDGE - 32 + at, size), due);
            }
        }
    }

    /** Both pages written, only the first, only the second, and none of them. */
    private static void crossesPages() {
        for (int written = 0; written < 4; written++) {
            SharedMemory m = new SharedMemory(2);
            long low = (written & 1) == 0 ? 0 : 0x91;
            long high = (written & 2) == 0 ? 0 : 0xa2;
            if (low != 0) {
                m.store(Check.EDGE - 1, 1, low);
            }
            if (high != 0) {
                m.store(Check.EDGE, 1, high);
            }
            for (int size : new int[] {2, 4, 8}) {
                for (int before = 1; before < size; before++) {
                    long due = low << 8 * (before - 1) | high << 8 * before;
                    Check.same(size + " over the edge", m.load(Check.EDGE - before, size), due);
                }
            }
        }
    }

    private static void hasNoSign() {
        for (int at = 0; at < 8; at++) {
            SharedMemory m = new SharedMemory(1);
            m.fill(Check.BASE, Check.BASE + 16, 255);
            Check.same("one", m.load(Check.BASE + at, 1), 0xffL);
            Check.same("two", m.load(Check.BASE + at, 2), 0xffffL);
            Check.same("four", m.load(Check.BASE + at, 4), 0xffffffffL);
            m.store(Check.BASE + at, 8, 0x80);
            Check.same("one with its top bit alone", m.load(Check.BASE + at, 1), 0x80L);
            m.store(Check.BASE + at, 8, 0x8000);
            Check.same("two with its top bit alone", m.load(Check.BASE + at, 2), 0x8000L);
            m.store(Check.BASE + at, 8, 0x80000000L);
            Check.same("four with its top bit alone", m.load(Check.BASE + at, 4), 0x80000000L);
        }
    }

    private static void eightBytesAreWhatTheyAre() {
        for (long v : new long[] {-1, Long.MIN_VALUE, Long.MAX_VALUE, 0x8000000000000001L, 0, 1, -2}) {
            for (int at = 0; at < 8; at++) {
                SharedMemory m = new SharedMemory(1);
                m.store(Check.AT + at, 8, v);
                Check.same("eight bytes at " + at, m.load(Check.AT + at, 8), v);
            }
        }
    }

    private static void wrongSizes() {
        for (int size : Check.WRONG_SIZES) {
            Check.refused("size " + size, Check.ARGUMENT, m -> m.load(Check.BASE, size));
            Check.refused("size " + size + " nowhere", Check.ARGUMENT, m -> m.load(3, size));
        }
    }

    private static void notInMemory() {
        for (int size : Check.SIZES) {
            for (long at : Check.notInMemory(size, Check.END)) {
                Check.refused("load " + at + " " + size, Check.INDEX, m -> m.load(at, size));
            }
            Check.changesNothing("load of the first", m -> m.load(Check.BASE, size));
            Check.changesNothing("load of the last", m -> m.load(Check.END - size, size));
        }
    }
}
