import java.math.BigInteger;

/** Promise 6: atomic. */
public final class Promise06AtomicTest {
    private static final long AT = Check.BASE + 64;
    private static final int[] CHANGES = {0, 1, 4, 8, 12, 16, 20, 24, 28};
    private static final long[] NUMBERS = {0, 1, -1, 2, 3, -5, 0x7fffffffL, 0x80000000L, -0x80000000L, 0xffffffffL,
        0x100000000L, 0x1_0000_0005L, 0x7fff_ffff_8000_0000L, Long.MAX_VALUE, Long.MIN_VALUE, 0x123456789abcdef0L};

    public static void main(String[] args) {
        changesOfEightBytes();
        changesOfFourBytes();
        reserveAnswersWithSign();
        conditionalSucceeds();
        conditionalFails();
        reservesAnew();
        othersLoseTheirs();
        changesLoseReservations();
        countsWrites();
        wrongKindsAndSizes();
        wrongProcessorsAndAddresses();
        sizeMustDivideTheAddress();
        namedFirstComesFirst();
        Check.end();
    }

    /** Worked out with big numbers, so as not to share a mistake with the class. */
    private static long due(int kind, long old, long operand, int size) {
        BigInteger a = signed(old, size);
        BigInteger b = signed(operand, size);
        BigInteger room = BigInteger.ONE.shiftLeft(8 * size);
        return switch (kind) {
            case 0 -> a.add(b).longValue();
            case 1 -> b.longValue();
            case 4 -> a.xor(b).longValue();
            case 8 -> a.or(b).longValue();
            case 12 -> a.and(b).longValue();
            case 16 -> a.min(b).longValue();
            case 20 -> a.max(b).longValue();
            case 24 -> a.mod(room).min(b.mod(room)).longValue();
            default -> a.mod(room).max(b.mod(room)).longValue();
        };
    }

    private static BigInteger signed(long v, int size) {
        return BigInteger.valueOf(size == 4 ? (int) v : v);
    }

    private static void changesOfEightBytes() {
        for (int kind : CHANGES) {
            for (long old : NUMBERS) {
                for (long operand : NUMBERS) {
                    SharedMemory m = new SharedMemory(1);
                    m.store(AT, 8, old);
                    String what = "atomic " + kind + " of " + old + " with " + operand;
                    Check.same(what, m.atomic(3, kind, AT, 8, operand), old);
                    Check.same(what + " then", m.load(AT, 8), due(kind, old, operand, 8));
                    Check.same(what + " before", m.load(AT - 8, 8), 0);
                    Check.same(what + " behind", m.load(AT + 8, 8), 0);
                }
            }
        }
    }

    private static void changesOfFourBytes() {
        for (int kind : CHANGES) {
            for (long old : NUMBERS) {
                for (long operand : NUMBERS) {
                    for (long at : new long[] {AT, AT + 4}) {
                        SharedMemory m = new SharedMemory(1);
                        long other = at == AT ? AT + 4 : AT;
                        m.store(other, 4, 0x5a5a5a5aL);
                        m.store(at, 4, old);
                        String what = "atomic of four " + kind + " of " + old + " with " + operand;
                        Check.same(what, m.atomic(0, kind, at, 4, operand), (int) old);
                        Check.same(what + " then", m.load(at, 4), due(kind, old, operand, 4) & 0xffffffffL);
                        Check.same(what + " beside", m.load(other, 4), 0x5a5a5a5aL);
                    }
                }
            }
        }
    }

    private static void reserveAnswersWithSign() {
        SharedMemory m = new SharedMemory(1);
        m.store(AT, 8, 0xfedcba9880000001L);
        Check.same("low four", m.atomic(0, 2, AT, 4, 99), 0x80000001);
        Check.same("its address", m.reserved(0), AT);
        Check.same("high four", m.atomic(1, 2, AT + 4, 4, 99), 0xfedcba98);
        Check.same("its address", m.reserved(1), AT + 4);
        Check.same("eight", m.atomic(2, 2, AT, 8, 99), 0xfedcba9880000001L);
        Check.same("the first still holds", m.reserved(0), AT);
        Check.same("nothing is stored", m.load(AT, 8), 0xfedcba9880000001L);
        Check.same("reserving is no write", m.writes(0), 1);
    }

    private static void conditionalSucceeds() {
        for (int p = 0; p < 4; p++) {
            for (int size : new int[] {4, 8}) {
                SharedMemory m = new SharedMemory(1);
                m.store(AT, 8, -1);
                m.atomic(p, 2, AT, size, 0);
                Check.same("answers 0", m.atomic(p, 3, AT, size, 0x1122334455667788L), 0);
                Check.same("stored", m.load(AT, 8), size == 8 ? 0x1122334455667788L : 0xffffffff55667788L);
                Check.same("reservation is gone", m.reserved(p), 0);
                Check.same("a write", m.writes(0), 2);
                Check.same("again fails", m.atomic(p, 3, AT, size, 5), 1);
                Check.same("no write", m.writes(0), 2);
            }
        }
    }

    private static void conditionalFails() {
        conditionalFailsAt("no reservation", 0, 0, AT, 8);
        conditionalFailsAt("other address", AT + 8, 8, AT, 8);
        conditionalFailsAt("less of it", AT, 8, AT, 4);
        conditionalFailsAt("more of it", AT, 4, AT, 8);
        conditionalFailsAt("other half", AT, 4, AT + 4, 4);
        conditionalFailsAt("first half", AT + 4, 4, AT, 4);
        conditionalFailsAt("inside it", AT, 8, AT + 4, 4);
        SharedMemory m = new SharedMemory(1);
        m.atomic(0, 2, AT, 8, 0);
        Check.same("another's reservation does not do", m.atomic(1, 3, AT, 8, 7), 1);
        Check.same("another's reservation stays", m.reserved(0), AT);
        Check.same("and does for it", m.atomic(0, 3, AT, 8, 7), 0);
    }

    private static void conditionalFailsAt(String what, long reservedAt, int reservedSize, long at, int size) {
        SharedMemory m = new SharedMemory(1);
        m.atomic(3, 2, AT, 8, 0);
        if (reservedSize != 0) {
            m.atomic(2, 2, reservedAt, reservedSize, 0);
        }
        Check.same(what, m.atomic(2, 3, at, size, 9), 1);
        Check.same(what + ": nothing stored", m.used(), 0);
        Check.same(what + ": no write", m.writes(0), 0);
        Check.same(what + ": reservation gone", m.reserved(2), 0);
        Check.same(what + ": had none to drop", m.drop(2), false);
        Check.same(what + ": others keep theirs", m.reserved(3), AT);
    }

    private static void reservesAnew() {
        SharedMemory m = new SharedMemory(1);
        m.atomic(0, 2, AT, 8, 0);
        m.atomic(0, 2, AT + 8, 8, 0);
        Check.same("the new one", m.reserved(0), AT + 8);
        m.store(AT, 8, 1);
        Check.same("the old one does not matter", m.reserved(0), AT + 8);
        Check.same("the new one does", m.atomic(0, 3, AT + 8, 8, 1), 0);
        m.atomic(0, 2, AT, 8, 0);
        m.atomic(0, 2, AT, 4, 0);
        Check.same("the old size is gone", m.atomic(0, 3, AT, 8, 1), 1);
        m.atomic(0, 2, AT, 8, 0);
        m.atomic(0, 2, AT, 4, 0);
        Check.same("the new size is there", m.atomic(0, 3, AT, 4, 1), 0);
    }

    private static void othersLoseTheirs() {
        SharedMemory m = new SharedMemory(1);
        m.atomic(0, 2, AT, 4, 0);
        m.atomic(1, 2, AT + 4, 4, 0);
        m.atomic(2, 2, AT, 8, 0);
        m.atomic(3, 2, AT + 8, 8, 0);
        m.atomic(0, 3, AT, 4, 0);
        Check.same("the other half", m.reserved(1), 0);
        Check.same("the whole", m.reserved(2), 0);
        Check.same("the next eight", m.reserved(3), AT + 8);
    }

    private static void changesLoseReservations() {
        for (int kind : CHANGES) {
            SharedMemory m = new SharedMemory(1);
            m.atomic(0, 2, AT, 8, 0);
            m.atomic(1, 2, AT, 4, 0);
            m.atomic(2, 2, AT - 8, 8, 0);
            m.atomic(3, 2, AT + 8, 4, 0);
            m.atomic(0, kind, AT + 4, 4, 0);
            Check.same(kind + " loses one's own", m.reserved(0), 0);
            Check.same(kind + " loses another's", m.reserved(1), 0);
            Check.same(kind + " keeps the one before", m.reserved(2), AT - 8);
            Check.same(kind + " keeps the one behind", m.reserved(3), AT + 8);
        }
    }

    private static void countsWrites() {
        SharedMemory m = new SharedMemory(2);
        int count = 0;
        for (int kind : CHANGES) {
            m.atomic(1, kind, Check.BASE + Check.PAGE - 8, 8, 0);
            count++;
            Check.same("writes of " + kind, m.writes(0), count);
        }
        Check.same("writes of the next page", m.writes(1), 0);
        m.atomic(1, 0, Check.BASE + 2 * Check.PAGE - 4, 4, 0);
        Check.same("the very last bytes", m.writes(1), 1);
    }

    private static void wrongKindsAndSizes() {
        SharedMemory m = new SharedMemory(1);
        m.atomic(0, 2, AT, 8, 0);
        for (int kind = -40; kind < 300; kind++) {
            int k = kind;
            boolean known = kind == 2 || kind == 3;
            for (int change : CHANGES) {
                known |= kind == change;
            }
            if (!known) {
                Check.failsAnswer("kind " + k, Check.ARGUMENT, () -> m.atomic(0, k, AT, 8, 1));
            }
        }
        for (int kind : new int[] {5, 32, -1, Integer.MAX_VALUE, Integer.MIN_VALUE}) {
            Check.failsAndKeeps("kind " + kind, Check.ARGUMENT, m, () -> m.atomic(0, kind, AT, 8, 1));
        }
        for (int size : new int[] {0, 1, 2, 3, 5, 6, 7, 9, 12, 16, -4, -8, Integer.MAX_VALUE, Integer.MIN_VALUE}) {
            for (int kind : new int[] {0, 1, 2, 3, 28}) {
                Check.failsAndKeeps("size " + size, Check.ARGUMENT, m, () -> m.atomic(0, kind, AT, size, 1));
            }
        }
    }

    private static void wrongProcessorsAndAddresses() {
        SharedMemory m = new SharedMemory(1);
        m.atomic(0, 2, AT, 8, 0);
        long end = Check.BASE + Check.PAGE;
        for (int kind : new int[] {0, 1, 2, 3, 28}) {
            for (int p : new int[] {-1, 4, 5, Integer.MAX_VALUE, Integer.MIN_VALUE}) {
                Check.failsAndKeeps("processor " + p, Check.INDEX, m, () -> m.atomic(p, kind, AT, 8, 1));
            }
            for (long at : new long[] {end, end + 8, Check.BASE - 8, 0, -8, Long.MIN_VALUE, Long.MAX_VALUE - 7,
                    Check.BASE + (1L << 32), Check.BASE + (1L << 63)}) {
                Check.failsAndKeeps("address " + at, Check.INDEX, m, () -> m.atomic(0, kind, at, 8, 1));
                Check.failsAndKeeps("address " + at, Check.INDEX, m, () -> m.atomic(0, kind, at, 4, 1));
            }
            Check.failsAndKeeps("half of it", Check.INDEX, m, () -> m.atomic(0, kind, end - 4, 8, 1));
        }
    }

    private static void sizeMustDivideTheAddress() {
        SharedMemory m = new SharedMemory(1);
        m.atomic(0, 2, AT, 8, 0);
        for (int kind : new int[] {0, 1, 2, 3, 28}) {
            for (int i = 1; i < 8; i++) {
                long at = AT + i;
                Check.failsAndKeeps("eight at " + i, Check.STATE, m, () -> m.atomic(0, kind, at, 8, 1));
                if (i != 4) {
                    Check.failsAndKeeps("four at " + i, Check.STATE, m, () -> m.atomic(0, kind, at, 4, 1));
                }
            }
        }
    }

    private static void namedFirstComesFirst() {
        SharedMemory m = new SharedMemory(1);
        Check.failsAnswer("kind before processor", Check.ARGUMENT, () -> m.atomic(9, 5, AT, 8, 1));
        Check.failsAnswer("size before address", Check.ARGUMENT, () -> m.atomic(0, 0, 1, 2, 1));
        Check.failsAnswer("kind before division", Check.ARGUMENT, () -> m.atomic(0, 6, AT + 1, 8, 1));
        Check.failsAnswer("size before division", Check.ARGUMENT, () -> m.atomic(0, 0, AT + 1, 2, 1));
        Check.failsAnswer("processor before division", Check.INDEX, () -> m.atomic(4, 0, AT + 1, 8, 1));
        Check.failsAnswer("address before division", Check.INDEX, () -> m.atomic(0, 0, Check.BASE - 1, 8, 1));
        Check.failsAnswer("last byte before division", Check.INDEX,
                () -> m.atomic(0, 0, Check.BASE + Check.PAGE - 3, 4, 1));
    }
}
