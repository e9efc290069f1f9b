import java.math.BigInteger;

/** "Terms", its third paragraph: what each KIND of ATOMIC operation does and answers. */
public final class TermsAtomicTest {
    private static final long AT = Check.AT;
    private static final long BESIDE = 0x5a5a5a5a5a5a5a5aL;
    private static final long[] NUMBERS = {0, 1, -1, 2, 3, -5, 0x7fffffffL, 0x80000000L, -0x80000000L, 0xffffffffL,
        0x100000000L, 0x100000005L, 0x7fffffff80000000L, Long.MAX_VALUE, Long.MIN_VALUE, Long.MAX_VALUE - 1,
        Long.MIN_VALUE + 1, 0x123456789abcdef0L};

    public static void main(String[] args) {
        Check.sentence("AN ATOMIC operation has an address and a size (4 or 8) that divides it.",
            TermsAtomicTest::sizeDividesAddress);
        Check.sentence("a size (4 or 8)", TermsAtomicTest::otherSizesAreNone);
        Check.sentence("Its KIND", TermsAtomicTest::otherKindsAreNone);
        Check.sentence("2 RESERVE: answers the number there, with sign", TermsAtomicTest::reserveAnswersWithSign);
        Check.sentence("the processor has a reservation of it", TermsAtomicTest::reserveReserves);
        Check.sentence("3 CONDITIONAL: if the processor has a reservation with just this address and size,"
            + " the number becomes the operand, and the answer is 0", TermsAtomicTest::conditionalSucceeds);
        Check.sentence("otherwise 1, and nothing is stored", TermsAtomicTest::conditionalFails);
        Check.sentence("it has no reservation in both cases", TermsAtomicTest::noReservationAfterConditional);
        Check.sentence("Others answer the number there, with sign", TermsAtomicTest::othersAnswerWithSign);
        Check.sentence("1 the operand", () -> becomes(1));
        Check.sentence("0 both added", () -> becomes(0));
        Check.sentence("4 both exclusive-or'd", () -> becomes(4));
        Check.sentence("8 or'd", () -> becomes(8));
        Check.sentence("12 and'd", () -> becomes(12));
        Check.sentence("16 the less", () -> becomes(16));
        Check.sentence("20 the greater of both", () -> becomes(20));
        Check.sentence("24 and 28 the same without sign (24)", () -> becomes(24));
        Check.sentence("24 and 28 the same without sign (28)", () -> becomes(28));
        Check.sentence("24 and 28 the same without sign", TermsAtomicTest::signCounts);
        Check.sentence("Of the operand the lowest bytes count, as many as the size has.",
            TermsAtomicTest::lowestBytesOfTheOperandCount);
        Check.sentence("All wraps.", TermsAtomicTest::allWraps);
        Check.end();
    }

    private static void sizeDividesAddress() {
        for (int kind : new int[] {0, 1, 2, 3, 4, 8, 12, 16, 20, 24, 28}) {
            for (int size : Check.ATOMIC_SIZES) {
                long due = kind == Check.CONDITIONAL ? 1 : 0;
                SharedMemory m = new SharedMemory(1);
                Check.same("the first of memory", m.atomic(0, kind, Check.BASE, size, 0), due);
                Check.same("the last of memory", m.atomic(0, kind, Check.EDGE - size, size, 0), due);
                for (int i = 0; i < 8; i++) {
                    long at = AT + i;
                    if (i % size == 0) {
                        Check.same(size + " divides " + at, m.atomic(0, kind, at, size, 0), due);
                    } else {
                        Check.fails(size + " does not divide " + at, Check.STATE, () -> m.atomic(0, kind, at, size, 0));
                    }
                }
            }
        }
    }

    private static void otherSizesAreNone() {
        for (int kind : new int[] {0, 1, 2, 3, 28}) {
            for (int size : Check.WRONG_SIZES) {
                Check.refused("kind " + kind + " size " + size, Check.ARGUMENT, m -> m.atomic(0, kind, AT, size, 0));
            }
            Check.refused("kind " + kind + " size 1", Check.ARGUMENT, m -> m.atomic(0, kind, AT, 1, 0));
            Check.refused("kind " + kind + " size 2", Check.ARGUMENT, m -> m.atomic(0, kind, AT, 2, 0));
        }
    }

    private static void otherKindsAreNone() {
        boolean[] known = new boolean[400];
        for (int kind : new int[] {0, 1, 2, 3, 4, 8, 12, 16, 20, 24, 28}) {
            known[kind + 100] = true;
        }
        SharedMemory m = new SharedMemory(1);
        for (int i = 0; i < known.length; i++) {
            int kind = i - 100;
            if (!known[i]) {
                Check.fails("kind " + kind, Check.ARGUMENT, () -> m.atomic(0, kind, AT, 8, 1));
            }
        }
        for (int kind : Check.WRONG_KINDS) {
            Check.refused("kind " + kind, Check.ARGUMENT, n -> n.atomic(0, kind, AT, 8, 1));
        }
    }

    private static void reserveAnswersWithSign() {
        for (long v : NUMBERS) {
            SharedMemory m = new SharedMemory(1);
            m.store(AT, 8, v);
            Check.same("eight of " + v, m.atomic(0, Check.RESERVE, AT, 8, 99), v);
            Check.same("the low four of " + v, m.atomic(0, Check.RESERVE, AT, 4, 99), (int) v);
            Check.same("the high four of " + v, m.atomic(0, Check.RESERVE, AT + 4, 4, 99), v >> 32);
            Check.same("nothing is stored", m.load(AT, 8), v);
            Check.same("no write", m.writes(0), 1);
        }
    }

    private static void reserveReserves() {
        for (int p = 0; p < 4; p++) {
            for (int size : Check.ATOMIC_SIZES) {
                for (long at : new long[] {Check.BASE, AT, Check.EDGE - size}) {
                    SharedMemory m = new SharedMemory(1);
                    m.atomic(p, Check.RESERVE, at, size, 0);
                    for (int q = 0; q < 4; q++) {
                        Check.same("reserved " + q, m.reserved(q), q == p ? at : 0);
                    }
                }
            }
        }
    }

    private static void conditionalSucceeds() {
        for (int p = 0; p < 4; p++) {
            for (int size : Check.ATOMIC_SIZES) {
                for (long at : new long[] {Check.BASE, AT, Check.EDGE - size}) {
                    SharedMemory m = new SharedMemory(1);
                    m.fill(Check.BASE, Check.EDGE, 0x5a);
                    m.atomic(p, Check.RESERVE, at, size, 0);
                    Check.same("the answer", m.atomic(p, Check.CONDITIONAL, at, size, 0x1122334455667788L), 0);
                    Check.same("stored", m.load(at, size), size == 8 ? 0x1122334455667788L : 0x55667788L);
                    Check.same("a write", m.writes(0), 2);
                    m.store(at, size, BESIDE);
                    Check.same("nothing beside it", m.sum(0), 0x5aL * 8390656);
                }
            }
        }
    }

    private static void conditionalFails() {
        fails("no reservation", 0, 0, AT, 8);
        fails("no reservation, four", 0, 0, AT, 4);
        fails("the eight bytes before", AT - 8, 8, AT, 8);
        fails("the eight bytes behind", AT + 8, 8, AT, 8);
        fails("the same address, less", AT, 8, AT, 4);
        fails("the same address, more", AT, 4, AT, 8);
        fails("the first half for the second", AT, 4, AT + 4, 4);
        fails("the second half for the first", AT + 4, 4, AT, 4);
        fails("the whole for its second half", AT, 8, AT + 4, 4);
        fails("the second half for the whole", AT + 4, 4, AT, 8);
        SharedMemory m = new SharedMemory(1);
        m.atomic(0, Check.RESERVE, AT, 8, 0);
        Check.same("another's reservation does not do", m.atomic(1, Check.CONDITIONAL, AT, 8, 7), 1);
        Check.same("nothing is stored", m.load(AT, 8), 0);
        Check.same("another's reservation stays", m.reserved(0), AT);
        m.store(AT + 4, 4, 3);
        Check.same("a lost reservation does not do", m.atomic(0, Check.CONDITIONAL, AT, 8, 7), 1);
        Check.same("nothing is stored then", m.load(AT, 8), 3L << 32);
    }

    private static void fails(String what, long reservedAt, int reservedSize, long at, int size) {
        SharedMemory m = new SharedMemory(1);
        m.atomic(3, Check.RESERVE, AT, 8, 0);
        if (reservedSize != 0) {
            m.atomic(2, Check.RESERVE, reservedAt, reservedSize, 0);
        }
        Check.same(what, m.atomic(2, Check.CONDITIONAL, at, size, 9), 1);
        Check.same(what + ": nothing stored", m.used(), 0);
        Check.same(what + ": no write", m.writes(0), 0);
        Check.same(what + ": others keep theirs", m.reserved(3), AT);
    }

    private static void noReservationAfterConditional() {
        long[] where = {AT, AT, AT, AT + 4, AT + 8};
        int[] size = {8, 4, 8, 4, 8};
        for (int p = 0; p < 4; p++) {
            for (int i = 0; i < where.length; i++) {
                SharedMemory m = new SharedMemory(1);
                m.atomic(p, Check.RESERVE, AT, i == 2 ? 4 : 8, 0);
                m.atomic(p, Check.CONDITIONAL, where[i], size[i], 1);
                Check.same("reserved, case " + i, m.reserved(p), 0);
                Check.same("once more, case " + i, m.atomic(p, Check.CONDITIONAL, AT, i == 2 ? 4 : 8, 2), 1);
                Check.same("drop, case " + i, m.drop(p), false);
            }
        }
    }

    private static void othersAnswerWithSign() {
        for (int kind : Check.CHANGES) {
            for (long v : NUMBERS) {
                for (long at : new long[] {AT, AT + 4}) {
                    SharedMemory m = new SharedMemory(1);
                    m.store(at, 4, v);
                    Check.same("four, kind " + kind + " of " + v, m.atomic(1, kind, at, 4, 6), (int) v);
                }
                SharedMemory m = new SharedMemory(1);
                m.store(AT, 8, v);
                Check.same("eight, kind " + kind + " of " + v, m.atomic(1, kind, AT, 8, 6), v);
            }
        }
    }

    /** Worked out with big numbers, so as not to share a mistake with the class. */
    private static long due(int kind, long old, long operand, int size) {
        BigInteger a = signed(old, size);
        BigInteger b = signed(operand, size);
        BigInteger room = BigInteger.ONE.shiftLeft(8 * size);
        BigInteger result = switch (kind) {
            case 0 -> a.add(b);
            case 1 -> b;
            case 4 -> a.xor(b);
            case 8 -> a.or(b);
            case 12 -> a.and(b);
            case 16 -> a.min(b);
            case 20 -> a.max(b);
            case 24 -> a.mod(room).min(b.mod(room));
            default -> a.mod(room).max(b.mod(room));
        };
        return result.mod(room).longValue();
    }

    private static BigInteger signed(long v, int size) {
        return BigInteger.valueOf(size == 4 ? (int) v : v);
    }

    private static void becomes(int kind) {
        for (long old : NUMBERS) {
            for (long operand : NUMBERS) {
                becomes(kind, old, operand, AT, 8);
                becomes(kind, old, operand, AT, 4);
                becomes(kind, old, operand, AT + 4, 4);
            }
            becomes(kind, old, 6, Check.BASE, 8);
            becomes(kind, old, 6, Check.EDGE - 4, 4);
        }
    }

    private static void becomes(int kind, long old, long operand, long at, int size) {
        SharedMemory m = new SharedMemory(1);
        m.fill(Check.BASE, Check.EDGE, 0x5a);
        m.store(at, size, old);
        m.atomic(0, kind, at, size, operand);
        String what = "kind " + kind + " of " + old + " with " + operand + ", " + size + " bytes at " + at;
        Check.same(what, m.load(at, size), due(kind, old, operand, size));
        m.store(at, size, BESIDE);
        Check.same(what + ", nothing beside it", m.sum(0), 0x5aL * 8390656);
    }

    /** Of -1 and 1 the less is -1 with sign and 1 without; so at the sign's edge. */
    private static void signCounts() {
        chosen(8, -1, 1, -1, 1, 1, -1);
        chosen(8, Long.MIN_VALUE, Long.MAX_VALUE, Long.MIN_VALUE, Long.MAX_VALUE, Long.MAX_VALUE, Long.MIN_VALUE);
        chosen(8, 0, Long.MIN_VALUE, Long.MIN_VALUE, 0, 0, Long.MIN_VALUE);
        chosen(8, 5, 5, 5, 5, 5, 5);
        chosen(4, 0xffffffffL, 1, 0xffffffffL, 1, 1, 0xffffffffL);
        chosen(4, 0x80000000L, 0x7fffffffL, 0x80000000L, 0x7fffffffL, 0x7fffffffL, 0x80000000L);
        chosen(4, 0, 0x80000000L, 0x80000000L, 0, 0, 0x80000000L);
        chosen(4, 0x80000000L, 0x80000000L, 0x80000000L, 0x80000000L, 0x80000000L, 0x80000000L);
    }

    private static void chosen(int size, long a, long b, long... due) {
        for (int i = 0; i < 4; i++) {
            SharedMemory m = new SharedMemory(1);
            m.store(AT, size, a);
            m.atomic(0, 16 + 4 * i, AT, size, b);
            Check.same("kind " + (16 + 4 * i) + " of " + a + " with " + b, m.load(AT, size), due[i]);
            m.store(AT, size, b);
            m.atomic(0, 16 + 4 * i, AT, size, a);
            Check.same("kind " + (16 + 4 * i) + " of " + b + " with " + a, m.load(AT, size), due[i]);
        }
    }

    private static void lowestBytesOfTheOperandCount() {
        for (int kind : Check.CHANGES) {
            for (long high : new long[] {0, 1L << 32, -1L << 32, 0x7fffffffL << 32, 1L << 63}) {
                for (long low : new long[] {0, 1, 0x7fffffffL, 0x80000000L, 0xffffffffL}) {
                    SharedMemory m = new SharedMemory(1);
                    m.store(AT, 8, 0x5a5a5a5a00000003L);
                    m.atomic(0, kind, AT, 4, high | low);
                    long now = 0x5a5a5a5a00000000L | due(kind, 3, low, 4);
                    Check.same("kind " + kind + " with " + (high | low), m.load(AT, 8), now);
                }
            }
        }
        SharedMemory m = new SharedMemory(1);
        m.store(AT, 8, BESIDE);
        m.atomic(0, Check.RESERVE, AT, 4, 0);
        m.atomic(0, Check.CONDITIONAL, AT, 4, 0x1122334455667788L);
        Check.same("conditional, the low half", m.load(AT, 8), 0x5a5a5a5a55667788L);
        m.atomic(0, Check.RESERVE, AT + 4, 4, 0);
        m.atomic(0, Check.CONDITIONAL, AT + 4, 4, 0x1122334455667788L);
        Check.same("conditional, the high half", m.load(AT, 8), 0x5566778855667788L);
        Check.same("nothing behind it", m.load(AT + 8, 8), 0);
    }

    private static void allWraps() {
        added(8, Long.MAX_VALUE, 1, Long.MIN_VALUE);
        added(8, Long.MIN_VALUE, -1, Long.MAX_VALUE);
        added(8, Long.MIN_VALUE, Long.MIN_VALUE, 0);
        added(8, -1, 1, 0);
        added(8, Long.MAX_VALUE, Long.MAX_VALUE, -2);
        added(4, 0x7fffffffL, 1, 0x80000000L);
        added(4, 0x80000000L, -1, 0x7fffffffL);
        added(4, 0x80000000L, 0x80000000L, 0);
        added(4, 0xffffffffL, 1, 0);
        added(4, 0x7fffffffL, 0x7fffffffL, 0xfffffffeL);
    }

    private static void added(int size, long old, long operand, long due) {
        SharedMemory m = new SharedMemory(1);
        m.store(AT, size, old);
        m.atomic(2, Check.ADD, AT, size, operand);
        Check.same(old + " and " + operand, m.load(AT, size), due);
        Check.same("nothing is carried on", m.load(AT + size, 8), 0);
        Check.same("nothing is carried back", m.load(AT - 8, 8), 0);
    }
}
