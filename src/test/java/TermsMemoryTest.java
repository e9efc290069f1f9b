/** "Terms", its first paragraph: MEMORY, its PAGES, the numbers in it and the processors. */
public final class TermsMemoryTest {
    public static void main(String[] args) {
        Check.sentence("MEMORY has as many PAGES of 4,096 bytes as said, 1 .. 1024",
            TermsMemoryTest::hasAsManyPagesAsSaid);
        Check.sentence("PAGES of 4,096 bytes", TermsMemoryTest::pageEndsAfter4096Bytes);
        Check.sentence("the first byte being at the address 2^31", TermsMemoryTest::firstByteIsAt2To31);
        Check.sentence("at first 0", TermsMemoryTest::everyByteIsZeroAtFirst);
        Check.sentence("A number of n bytes (n = 1, 2, 4, 8) stands in them with the lowest byte first.",
            TermsMemoryTest::lowestByteStandsFirst);
        Check.sentence("(n = 1, 2, 4, 8)", TermsMemoryTest::otherSizesAreNone);
        Check.sentence("Processors are 0 .. 3.", TermsMemoryTest::processorsAre0To3);
        Check.end();
    }

    private static void hasAsManyPagesAsSaid() {
        for (int n : new int[] {1, 2, 3, 511, 512, 513, 1023, 1024}) {
            SharedMemory m = new SharedMemory(n);
            long end = Check.BASE + n * Check.PAGE;
            m.store(end - 1, 1, 7);
            Check.same("the last byte of " + n, m.load(end - 1, 1), 7);
            m.store(end - 8, 8, -2);
            Check.same("the last eight of " + n, m.load(end - 8, 8), -2);
            Check.same("the last page of " + n, m.writes(n - 1), 2);
            for (int size : Check.SIZES) {
                Check.fails("behind the last of " + n, Check.INDEX, () -> m.load(end, size));
                Check.fails("over the last of " + n, Check.INDEX, () -> m.load(end - size + 1, size));
            }
            Check.fails("the page behind the last of " + n, Check.INDEX, () -> m.writes(n));
        }
    }

    private static void pageEndsAfter4096Bytes() {
        SharedMemory m = new SharedMemory(2);
        m.store(Check.BASE + 4095, 1, 1);
        Check.same("byte 4095 is in page 0", m.writes(0), 1);
        Check.same("byte 4095 is not in page 1", m.writes(1), 0);
        Check.same("byte 4095 is the last of page 0", m.sum(0), 4096);
        m.store(Check.BASE + 4096, 1, 1);
        Check.same("byte 4096 is not in page 0", m.writes(0), 1);
        Check.same("byte 4096 is in page 1", m.writes(1), 1);
        Check.same("byte 4096 is the first of page 1", m.sum(1), 1);
    }

    private static void firstByteIsAt2To31() {
        SharedMemory m = new SharedMemory(1);
        m.store(2147483648L, 1, 9);
        Check.same("2^31", m.load(2147483648L, 1), 9);
        Check.same("its place in the page is 0", m.sum(0), 9);
        for (long at : new long[] {2147483647L, 0, 1, 2147483640L, -2147483648L, 6442450944L,
                Long.MIN_VALUE + 2147483648L}) {
            Check.fails("load " + at, Check.INDEX, () -> m.load(at, 1));
        }
        for (int size : new int[] {2, 4, 8}) {
            Check.fails("one byte too low", Check.INDEX, () -> m.load(2147483647L, size));
            Check.fails("all but one too low", Check.INDEX, () -> m.load(2147483648L - size + 1, size));
        }
    }

    private static void everyByteIsZeroAtFirst() {
        for (int page : new int[] {0, 1, 511, 1022, 1023}) {
            SharedMemory m = new SharedMemory(1024);
            long start = Check.BASE + page * Check.PAGE;
            for (long at = start; at < start + Check.PAGE; at += 8) {
                Check.same("load " + at, m.load(at, 8), 0);
            }
        }
        for (int half = 0; half < 2; half++) {
            SharedMemory m = new SharedMemory(1024);
            for (int page = 512 * half; page < 512 * half + 512; page++) {
                Check.same("sum " + page, m.sum(page), 0);
            }
        }
        SharedMemory m = new SharedMemory(2);
        m.store(Check.AT, 1, 1);
        Check.same("beside the first byte stored", m.load(Check.AT + 1, 8), 0);
        Check.same("before the first byte stored", m.load(Check.AT - 8, 8), 0);
    }

    /** At every place in eight bytes, over their edges, and over a page's edge. */
    private static void lowestByteStandsFirst() {
        for (int size : Check.SIZES) {
            for (int i = 0; i <= 16; i++) {
                bytesOfANumber(size, Check.AT + i);
                bytesOfANumber(size, Check.EDGE - 9 + i);
                numberOfBytes(size, Check.AT + i);
                numberOfBytes(size, Check.EDGE - 9 + i);
            }
            bytesOfANumber(size, Check.BASE);
            bytesOfANumber(size, Check.END - size);
            numberOfBytes(size, Check.BASE);
            numberOfBytes(size, Check.END - size);
        }
    }

    private static void bytesOfANumber(int size, long at) {
        SharedMemory m = new SharedMemory(2);
        m.store(at, size, 0x8877665544332211L);
        for (int i = 0; i < size; i++) {
            Check.same("byte " + i + " of " + size + " at " + at, m.load(at + i, 1), 0x11 * (i + 1));
        }
    }

    private static void numberOfBytes(int size, long at) {
        SharedMemory m = new SharedMemory(2);
        for (int i = 0; i < size; i++) {
            m.store(at + i, 1, 0x11 * (i + 1));
        }
        long due = 0x8877665544332211L & -1L >>> 64 - 8 * size;
        Check.same("the number of " + size + " at " + at, m.load(at, size), due);
    }

    private static void otherSizesAreNone() {
        for (int size : Check.WRONG_SIZES) {
            Check.refused("load of " + size, Check.ARGUMENT, m -> m.load(Check.AT, size));
            Check.refused("store of " + size, Check.ARGUMENT, m -> m.store(Check.AT, size, 1));
        }
    }

    private static void processorsAre0To3() {
        for (int p = 0; p <= 3; p++) {
            SharedMemory m = new SharedMemory(1);
            Check.same("atomic of " + p, m.atomic(p, Check.RESERVE, Check.AT, 8, 0), 0);
            Check.same("reserved of " + p, m.reserved(p), Check.AT);
            Check.same("drop of " + p, m.drop(p), true);
        }
        for (int p : Check.WRONG_PROCESSORS) {
            Check.refused("atomic of " + p, Check.INDEX, m -> m.atomic(p, Check.SWAP, Check.AT, 8, 0));
            Check.refused("reserved of " + p, Check.INDEX, m -> m.reserved(p));
            Check.refused("drop of " + p, Check.INDEX, m -> m.drop(p));
        }
    }
}
