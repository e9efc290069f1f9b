/** Promise 6: atomic. What each kind does is in TermsAtomicTest. */
public final class Promise06AtomicTest {
    private static final long AT = Check.AT;

    public static void main(String[] args) {
        Check.sentence("Carries out an atomic operation of a processor: its answer.",
            Promise06AtomicTest::carriesOutForAProcessor);
        Check.sentence("Carries out an atomic operation (the first and the last of memory)",
            Promise06AtomicTest::firstAndLast);
        Check.sentence("IllegalStateException: the size does not divide the address.",
            Promise06AtomicTest::sizeMustDivideTheAddress);
        Check.sentence("throws IllegalArgumentException", Promise06AtomicTest::wrongKindsAndSizes);
        Check.sentence("throws IndexOutOfBoundsException", Promise06AtomicTest::wrongProcessorsAndAddresses);
        Check.end();
    }

    /** Two processors count up one number, as programs do it: reserve, then store if no one came between. */
    private static void carriesOutForAProcessor() {
        SharedMemory m = new SharedMemory(1);
        for (int i = 0; i < 20; i++) {
            int p = i % 4;
            int q = (i + 1) % 4;
            long mine = m.atomic(p, Check.RESERVE, AT, 8, 0);
            Check.same("what " + p + " sees", mine, 2 * i);
            long others = m.atomic(q, Check.RESERVE, AT, 8, 0);
            Check.same("what " + q + " sees", others, 2 * i);
            Check.same(q + " comes first", m.atomic(q, Check.CONDITIONAL, AT, 8, others + 1), 0);
            Check.same(p + " comes too late", m.atomic(p, Check.CONDITIONAL, AT, 8, mine + 1), 1);
            Check.same(p + " adds at once", m.atomic(p, Check.ADD, AT, 8, 1), 2 * i + 1);
        }
        Check.same("both counted", m.load(AT, 8), 40);
    }

    private static void firstAndLast() {
        for (int pages : new int[] {1, 2, 1024}) {
            for (int size : Check.ATOMIC_SIZES) {
                SharedMemory m = new SharedMemory(pages);
                long last = Check.BASE + pages * Check.PAGE - size;
                for (long at : new long[] {Check.BASE, last}) {
                    Check.same("swap", m.atomic(0, Check.SWAP, at, size, -3), 0);
                    Check.same("add", m.atomic(1, Check.ADD, at, size, 1), -3);
                    Check.same("reserve", m.atomic(2, Check.RESERVE, at, size, 0), -2);
                    Check.same("conditional", m.atomic(2, Check.CONDITIONAL, at, size, 9), 0);
                    Check.same("load", m.load(at, size), 9);
                }
            }
        }
    }

    private static void sizeMustDivideTheAddress() {
        for (int kind : new int[] {0, 1, 2, 3, 4, 8, 12, 16, 20, 24, 28}) {
            for (int i = 1; i < 8; i++) {
                long at = AT + i;
                long last = Check.END - 16 + i;
                Check.refused("eight at " + i, Check.STATE, m -> m.atomic(3, kind, at, 8, 1));
                Check.refused("eight near the end, " + i, Check.STATE, m -> m.atomic(2, kind, last, 8, 1));
                if (i != 4) {
                    Check.refused("four at " + i, Check.STATE, m -> m.atomic(3, kind, at, 4, 1));
                    Check.refused("four near the end, " + i, Check.STATE, m -> m.atomic(2, kind, last, 4, 1));
                }
            }
        }
    }

    private static void wrongKindsAndSizes() {
        for (int kind : Check.WRONG_KINDS) {
            Check.refused("kind " + kind, Check.ARGUMENT, m -> m.atomic(0, kind, Check.BASE, 8, 1));
        }
        for (int size : Check.WRONG_SIZES) {
            Check.refused("size " + size, Check.ARGUMENT, m -> m.atomic(0, Check.CONDITIONAL, Check.BASE, size, 1));
        }
    }

    private static void wrongProcessorsAndAddresses() {
        for (int p : Check.WRONG_PROCESSORS) {
            Check.refused("processor " + p, Check.INDEX, m -> m.atomic(p, Check.SWAP, AT, 8, 1));
        }
        for (int size : Check.ATOMIC_SIZES) {
            for (long at : Check.notInMemory(size, Check.END)) {
                Check.refused("address " + at, Check.INDEX, m -> m.atomic(0, Check.SWAP, at, size, 1));
            }
        }
    }
}
