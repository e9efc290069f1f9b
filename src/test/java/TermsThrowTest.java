/** "Terms", its last paragraph: which exception a call throws, and that it changes nothing then. */
public final class TermsThrowTest {
    private static final long AT = Check.AT;
    private static final long END = Check.END;
    private static final int[] KINDS = {0, 1, 2, 3, 4, 8, 12, 16, 20, 24, 28};
    private static final int[] WRONG_PAGES = {-1, 2, 3, 4, 512, 1023, 1024, -2, 256, 1 << 20, Integer.MAX_VALUE,
        Integer.MIN_VALUE};

    public static void main(String[] args) {
        Check.sentence("A call that throws changes nothing (the size of a reservation neither)",
            TermsThrowTest::keepsTheOldReservation);
        Check.sentence("A call that throws changes nothing (the bytes that are in memory neither)",
            TermsThrowTest::keepsTheBytesInMemory);
        Check.sentence("A call that throws changes nothing (and so a new memory stays new)",
            TermsThrowTest::newMemoryStaysNew);
        Check.sentence("the exception named first is the one when several would do (load, store, fill)",
            TermsThrowTest::namedFirstOfTwo);
        Check.sentence("the exception named first is the one when several would do (atomic)",
            TermsThrowTest::namedFirstOfThree);
        Check.sentence("IndexOutOfBoundsException: a byte is not in memory (load, store)",
            TermsThrowTest::numberNotInMemory);
        Check.sentence("IndexOutOfBoundsException: a byte is not in memory (fill)",
            TermsThrowTest::fillNotInMemory);
        Check.sentence("IndexOutOfBoundsException: a byte is not in memory (atomic)",
            TermsThrowTest::atomicNotInMemory);
        Check.sentence("(or there is no such processor", TermsThrowTest::noSuchProcessor);
        Check.sentence("(or there is no such .. page)", TermsThrowTest::noSuchPage);
        Check.sentence("IllegalArgumentException: a size .. is none.", TermsThrowTest::noSuchSize);
        Check.sentence("IllegalArgumentException: a .. kind is none.", TermsThrowTest::noSuchKind);
        Check.end();
    }

    /** A processor that asks wrongly for a new reservation, or a conditional store, still has its old one. */
    private static void keepsTheOldReservation() {
        for (int kind : KINDS) {
            Check.refused("none of size, kind " + kind, Check.ARGUMENT, m -> m.atomic(0, kind, Check.BASE, 2, 1));
            Check.refused("outside, kind " + kind, Check.INDEX, m -> m.atomic(0, kind, END, 4, 1));
            Check.refused("half outside, kind " + kind, Check.INDEX, m -> m.atomic(2, kind, END - 4, 8, 1));
            for (int p = 0; p < 4; p++) {
                int processor = p;
                Check.refused("eight not divided, kind " + kind, Check.STATE,
                    m -> m.atomic(processor, kind, AT + 4, 8, 1));
                Check.refused("four not divided, kind " + kind, Check.STATE,
                    m -> m.atomic(processor, kind, AT + 2, 4, 1));
            }
            Check.refused("no processor, kind " + kind, Check.INDEX, m -> m.atomic(4, kind, AT, 4, 1));
        }
        Check.refused("none of kind", Check.ARGUMENT, m -> m.atomic(0, 5, Check.BASE, 8, 1));
        Check.refused("drop of none", Check.INDEX, m -> m.drop(-1));
    }

    /** Of a number or a fill that lies over an edge of memory the part inside is not stored either. */
    private static void keepsTheBytesInMemory() {
        for (int size : new int[] {2, 4, 8}) {
            for (int out = 1; out < size; out++) {
                long high = END - size + out;
                long low = Check.BASE - out;
                Check.refused("store over the end", Check.INDEX, m -> m.store(high, size, -1));
                Check.refused("store over the start", Check.INDEX, m -> m.store(low, size, -1));
            }
        }
        Check.refused("fill over the end", Check.INDEX, m -> m.fill(Check.BASE, END + 1, 1));
        Check.refused("fill over the start", Check.INDEX, m -> m.fill(Check.BASE - 1, END, 1));
        Check.refused("fill over both", Check.INDEX, m -> m.fill(Check.BASE - 1, END + 1, 1));
        Check.refused("fill turned round", Check.ARGUMENT, m -> m.fill(END, Check.BASE, 1));
    }

    private static void newMemoryStaysNew() {
        SharedMemory m = new SharedMemory(1);
        Check.fails("store", Check.INDEX, () -> m.store(Check.EDGE - 1, 8, -1));
        Check.fails("fill", Check.INDEX, () -> m.fill(Check.BASE, Check.EDGE + 1, 1));
        Check.fails("atomic", Check.STATE, () -> m.atomic(0, Check.RESERVE, AT + 1, 4, 0));
        Check.fails("atomic", Check.STATE, () -> m.atomic(0, Check.SWAP, AT + 4, 8, -1));
        Check.fails("store", Check.ARGUMENT, () -> m.store(AT, 3, -1));
        Check.same("writes", m.writes(0), 0);
        Check.same("sum", m.sum(0), 0);
        Check.same("used", m.used(), 0);
        Check.same("reserved", m.reserved(0), 0);
    }

    private static void namedFirstOfTwo() {
        for (int size : Check.WRONG_SIZES) {
            for (long at : new long[] {0, Check.BASE - 1, END, -1, Long.MAX_VALUE, Long.MIN_VALUE}) {
                Check.refused("load", Check.ARGUMENT, m -> m.load(at, size));
                Check.refused("store", Check.ARGUMENT, m -> m.store(at, size, 1));
            }
        }
        Check.refused("fill behind memory", Check.ARGUMENT, m -> m.fill(END + 9, END + 8, 1));
        Check.refused("fill before memory", Check.ARGUMENT, m -> m.fill(Check.BASE - 8, Check.BASE - 9, 1));
        Check.refused("fill from behind to before", Check.ARGUMENT, m -> m.fill(END + 1, Check.BASE - 1, 1));
        Check.refused("fill from far to far", Check.ARGUMENT, m -> m.fill(Long.MAX_VALUE, Long.MIN_VALUE, 1));
    }

    private static void namedFirstOfThree() {
        for (int kind : KINDS) {
            Check.refused("size, processor", Check.ARGUMENT, m -> m.atomic(4, kind, AT, 2, 1));
            Check.refused("size, address", Check.ARGUMENT, m -> m.atomic(0, kind, 0, 16, 1));
            Check.refused("size, division", Check.ARGUMENT, m -> m.atomic(0, kind, AT + 1, 2, 1));
            Check.refused("size, all else", Check.ARGUMENT, m -> m.atomic(-1, kind, 1, 0, 1));
            Check.refused("processor, division", Check.INDEX, m -> m.atomic(4, kind, AT + 1, 8, 1));
            Check.refused("address, division, before", Check.INDEX, m -> m.atomic(0, kind, Check.BASE - 1, 4, 1));
            Check.refused("address, division, over the end", Check.INDEX, m -> m.atomic(0, kind, END - 3, 4, 1));
            Check.refused("address, division, half", Check.INDEX, m -> m.atomic(0, kind, END - 4, 8, 1));
            Check.refused("address, division, behind", Check.INDEX, m -> m.atomic(0, kind, END + 1, 4, 1));
            Check.refused("both, division", Check.INDEX, m -> m.atomic(9, kind, 3, 8, 1));
        }
        for (int kind : Check.WRONG_KINDS) {
            Check.refused("kind, processor", Check.ARGUMENT, m -> m.atomic(-1, kind, AT, 8, 1));
            Check.refused("kind, address", Check.ARGUMENT, m -> m.atomic(0, kind, END, 8, 1));
            Check.refused("kind, division", Check.ARGUMENT, m -> m.atomic(0, kind, AT + 1, 8, 1));
            Check.refused("kind, all else", Check.ARGUMENT, m -> m.atomic(4, kind, 7, 3, 1));
        }
    }

    private static void numberNotInMemory() {
        for (int size : Check.SIZES) {
            for (long at : Check.notInMemory(size, END)) {
                Check.refused("load " + at + " " + size, Check.INDEX, m -> m.load(at, size));
                Check.refused("store " + at + " " + size, Check.INDEX, m -> m.store(at, size, -1));
            }
            inMemory(size, Check.BASE);
            inMemory(size, END - size);
        }
    }

    private static void inMemory(int size, long at) {
        SharedMemory m = new SharedMemory(2);
        m.store(at, size, 1);
        Check.same("the first and the last are in memory", m.load(at, size), 1);
    }

    private static void fillNotInMemory() {
        notFilled(Check.BASE - 1, Check.BASE);
        notFilled(Check.BASE - 1, Check.BASE + 1);
        notFilled(Check.BASE - 1, END);
        notFilled(END, END + 1);
        notFilled(END - 1, END + 1);
        notFilled(Check.BASE, END + 1);
        notFilled(0, 1);
        notFilled(0, END);
        notFilled(-1, 0);
        notFilled(-1, 1);
        notFilled(Check.BASE, Long.MAX_VALUE);
        notFilled(Long.MIN_VALUE, END);
        notFilled(Long.MIN_VALUE, Long.MAX_VALUE);
        notFilled(Long.MIN_VALUE, Long.MIN_VALUE + 1);
        notFilled(Long.MAX_VALUE - 1, Long.MAX_VALUE);
        notFilled(Check.BASE + (1L << 32), Check.BASE + (1L << 32) + 8);
        notFilled(Check.BASE, Check.BASE + (1L << 32) + 8);
        notFilled(-Check.BASE, -Check.BASE + 8);
        SharedMemory m = new SharedMemory(2);
        m.fill(Check.BASE, Check.BASE + 1, 1);
        m.fill(END - 1, END, 1);
        m.fill(Check.BASE, END, 1);
        Check.same("from the first to the last is in memory", m.used(), 2);
    }

    private static void notFilled(long from, long to) {
        Check.refused("fill " + from + " " + to, Check.INDEX, m -> m.fill(from, to, 1));
    }

    private static void atomicNotInMemory() {
        for (int kind : KINDS) {
            for (int size : Check.ATOMIC_SIZES) {
                for (long at : Check.notInMemory(size, END)) {
                    Check.refused("atomic " + kind + " " + at + " " + size, Check.INDEX,
                        m -> m.atomic(0, kind, at, size, 1));
                }
            }
        }
    }

    private static void noSuchProcessor() {
        for (int p : Check.WRONG_PROCESSORS) {
            for (int kind : KINDS) {
                Check.refused("atomic " + p + " " + kind, Check.INDEX, m -> m.atomic(p, kind, AT, 4, 1));
            }
            Check.refused("drop " + p, Check.INDEX, m -> m.drop(p));
            Check.refused("reserved " + p, Check.INDEX, m -> m.reserved(p));
        }
    }

    private static void noSuchPage() {
        for (int page : WRONG_PAGES) {
            Check.refused("writes " + page, Check.INDEX, m -> m.writes(page));
            Check.refused("sum " + page, Check.INDEX, m -> m.sum(page));
        }
        SharedMemory all = new SharedMemory(1024);
        Check.same("the last page there can be", all.writes(1023) + all.sum(1023), 0);
        Check.fails("writes 1024", Check.INDEX, () -> all.writes(1024));
        Check.fails("sum 1024", Check.INDEX, () -> all.sum(1024));
    }

    private static void noSuchSize() {
        for (int size : Check.WRONG_SIZES) {
            Check.refused("load " + size, Check.ARGUMENT, m -> m.load(Check.BASE, size));
            Check.refused("store " + size, Check.ARGUMENT, m -> m.store(Check.BASE, size, 1));
            Check.refused("atomic " + size, Check.ARGUMENT, m -> m.atomic(0, Check.RESERVE, Check.BASE, size, 1));
        }
        Check.refused("atomic 1", Check.ARGUMENT, m -> m.atomic(0, Check.ADD, Check.BASE, 1, 1));
        Check.refused("atomic 2", Check.ARGUMENT, m -> m.atomic(0, Check.ADD, Check.BASE, 2, 1));
    }

    private static void noSuchKind() {
        for (int kind : Check.WRONG_KINDS) {
            for (int size : Check.ATOMIC_SIZES) {
                Check.refused("kind " + kind, Check.ARGUMENT, m -> m.atomic(0, kind, Check.BASE, size, 1));
            }
        }
    }
}
