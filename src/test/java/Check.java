/**
 * What the tests share: it compares answers, prints each wrong one with the sentence of the document
 * that it breaks, and ends the test with exit code 1.
 */
final class Check {
    static final long BASE = 1L << 31;
    static final long PAGE = 4096;
    /** In a memory of two pages: where the second begins, and where memory ends. */
    static final long EDGE = BASE + PAGE;
    static final long END = BASE + 2 * PAGE;
    /** An address that 8 divides, far from all edges. */
    static final long AT = BASE + 64;

    static final Class<? extends Exception> ARGUMENT = IllegalArgumentException.class;
    static final Class<? extends Exception> INDEX = IndexOutOfBoundsException.class;
    static final Class<? extends Exception> STATE = IllegalStateException.class;

    static final int ADD = 0;
    static final int SWAP = 1;
    static final int RESERVE = 2;
    static final int CONDITIONAL = 3;
    /** Every kind that is neither RESERVE nor CONDITIONAL. */
    static final int[] CHANGES = {0, 1, 4, 8, 12, 16, 20, 24, 28};

    static final int[] SIZES = {1, 2, 4, 8};
    static final int[] ATOMIC_SIZES = {4, 8};
    static final int[] WRONG_SIZES = {0, 3, 5, 6, 7, 9, 10, 12, 16, 32, 64, -1, -2, -4, -8, 256 + 4, 65536 + 8,
        Integer.MAX_VALUE, Integer.MIN_VALUE, Integer.MIN_VALUE + 8};
    static final int[] WRONG_PROCESSORS = {-1, 4, 5, 8, -4, 256, 1 << 16, Integer.MAX_VALUE, Integer.MIN_VALUE};
    static final int[] WRONG_KINDS = {-1, 5, 6, 7, 9, 10, 11, 13, 27, 29, 32, -4, 256, 256 + 2, 1 << 16,
        Integer.MAX_VALUE, Integer.MIN_VALUE};

    private static final long[] SCENE_RESERVED = {BASE, EDGE - 4, END - 8, AT};
    private static final int[] SCENE_SIZE = {8, 4, 8, 4};

    private static int wrong = 0;
    private static int asked = 0;

    private Check() {
    }

    interface Call {
        void on(SharedMemory m);
    }

    /** Runs the test of one sentence of the document, given by its words. */
    static void sentence(String words, Runnable test) {
        int wrongBefore = wrong;
        int askedBefore = asked;
        try {
            test.run();
        } catch (RuntimeException | Error e) {
            tell("a call threw " + e);
        }
        if (asked == askedBefore) {
            tell("nothing was asked");
        }
        if (wrong != wrongBefore) {
            System.out.println("BROKEN: " + words);
        }
    }

    static void same(String what, long got, long want) {
        asked++;
        if (got != want) {
            tell(what + " answered " + got + ", due is " + want);
        }
    }

    static void same(String what, boolean got, boolean want) {
        asked++;
        if (got != want) {
            tell(what + " answered " + got + ", due is " + want);
        }
    }

    static void isTrue(String what, boolean holds) {
        same(what, holds, true);
    }

    /** The class must be just this one: the machine's own ArrayIndexOutOfBoundsException would be wrong. */
    static void fails(String what, Class<? extends Exception> want, Runnable call) {
        asked++;
        Class<?> got = null;
        try {
            call.run();
        } catch (RuntimeException e) {
            got = e.getClass();
        }
        if (got != want) {
            tell(what + " threw " + got + ", due is " + want);
        }
    }

    /** A call on a scene() throws, and leaves all that can be seen of the scene as it was. */
    static void refused(String what, Class<? extends Exception> want, Call call) {
        SharedMemory m = scene();
        fails(what, want, () -> call.on(m));
        keeps(what, m);
    }

    /** A call on a scene() answers, and leaves all that can be seen of the scene as it was. */
    static void changesNothing(String what, Call call) {
        SharedMemory m = scene();
        call.on(m);
        keeps(what, m);
    }

    private static void keeps(String what, SharedMemory m) {
        asked++;
        String due = look(scene());
        String got = look(m);
        if (!got.equals(due)) {
            tell(what + " left " + got + ", due is " + due);
        }
    }

    /** Two pages with numbers at all their edges, and a reservation for each processor. */
    static SharedMemory scene() {
        SharedMemory m = new SharedMemory(2);
        m.store(BASE, 8, 0x1122334455667788L);
        m.store(AT, 8, -5);
        m.store(EDGE - 8, 8, 0x99aabbccddeeff01L);
        m.store(EDGE, 8, 0x0203040506070809L);
        m.store(END - 8, 8, 0xf1f2f3f4f5f6f7f8L);
        for (int p = 0; p < 4; p++) {
            m.atomic(p, RESERVE, SCENE_RESERVED[p], SCENE_SIZE[p], 0);
        }
        return m;
    }

    private static String look(SharedMemory m) {
        StringBuilder text = new StringBuilder();
        text.append("pages ").append(m.pages()).append(" used ").append(m.used());
        for (int page = 0; page < 2; page++) {
            text.append(" writes ").append(m.writes(page)).append(" sum ").append(m.sum(page));
        }
        for (int p = 0; p < 4; p++) {
            text.append(" reserved ").append(m.reserved(p));
        }
        for (long at : new long[] {BASE, AT, EDGE - 8, EDGE, END - 8}) {
            text.append(" load ").append(m.load(at, 8));
        }
        // A reservation's size shows in nothing but whether a conditional store succeeds.
        for (int p = 0; p < 4; p++) {
            text.append(" stored ").append(m.atomic(p, CONDITIONAL, SCENE_RESERVED[p], SCENE_SIZE[p], 0));
        }
        return text.toString();
    }

    /** Addresses from which on not all of so many bytes are in a memory that has an end, near it and far from it. */
    static long[] notInMemory(int size, long end) {
        return new long[] {BASE - 1, BASE - size, BASE - size - 1, end - size + 1, end, end + 1, end + size,
            0, 1, -1, -size, 8, -BASE, -end, BASE + (1L << 32), end - 8 + (1L << 32), BASE + (1L << 63),
            Long.MAX_VALUE, Long.MAX_VALUE - size + 1, Long.MAX_VALUE - size, Long.MAX_VALUE - 7,
            Long.MIN_VALUE, Long.MIN_VALUE + 1};
    }

    static void end() {
        if (asked == 0) {
            tell("nothing was asked");
        }
        if (wrong != 0) {
            System.out.println(wrong + " of " + asked + " are wrong");
            System.exit(1);
        }
    }

    private static void tell(String text) {
        wrong++;
        if (wrong <= 40) {
            System.out.println(text);
        }
    }
}
