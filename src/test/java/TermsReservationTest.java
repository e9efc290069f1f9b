/** "Terms", its second paragraph: what a RESERVATION is and when it is LOST. */
public final class TermsReservationTest {
    /** The first and the last eight bytes of memory, of its pages, and some between. */
    private static final long[] WORDS = {Check.BASE, Check.AT, Check.EDGE - 8, Check.EDGE, Check.END - 8};
    /** What of eight bytes may be reserved: all, the first half, the second half. */
    private static final int[] PLACES = {0, 0, 4};
    private static final int[] SIZES = {8, 4, 4};

    public static void main(String[] args) {
        Check.sentence("A RESERVATION of a processor is an address and a size (4 or 8)",
            TermsReservationTest::isAnAddressAndASize);
        Check.sentence("at first no one has any", TermsReservationTest::noOneHasAnyAtFirst);
        Check.sentence("LOST when .. stores something into one of the eight bytes that it lies in"
            + " (those from an address on that 8 divides) .. by store()", TermsReservationTest::lostByStore);
        Check.sentence("LOST when .. stores something into one of the eight bytes .. by fill()",
            TermsReservationTest::lostByFill);
        Check.sentence("LOST when any processor stores something .. by a conditional store that succeeds",
            TermsReservationTest::lostByConditional);
        Check.sentence("LOST when any processor stores something .. by an atomic change",
            TermsReservationTest::lostByChange);
        Check.sentence("whatever was there before", TermsReservationTest::lostWhateverWasThere);
        Check.sentence("when the processor reserves anew", TermsReservationTest::lostByReservingAnew);
        Check.sentence("and when drop() says so", TermsReservationTest::lostByDrop);
        Check.sentence("It is LOST when (and so by nothing else)", TermsReservationTest::keptByAllElse);
        Check.end();
    }

    private static SharedMemory reservedBy(int processor, long word, int form) {
        SharedMemory m = new SharedMemory(2);
        m.atomic(processor, Check.RESERVE, word + PLACES[form], SIZES[form], 0);
        return m;
    }

    private static void isAnAddressAndASize() {
        for (int size : Check.ATOMIC_SIZES) {
            for (int p = 0; p < 4; p++) {
                SharedMemory m = new SharedMemory(1);
                for (int q = 0; q < 4; q++) {
                    m.atomic(q, Check.RESERVE, Check.AT + 8 * q, size, 0);
                }
                Check.same("the address", m.reserved(p), Check.AT + 8 * p);
                Check.same("the size", m.atomic(p, Check.CONDITIONAL, Check.AT + 8 * p, size, 1), 0);
                m.atomic(p, Check.RESERVE, Check.AT + 8 * p, size, 0);
                Check.same("not the size", m.atomic(p, Check.CONDITIONAL, Check.AT + 8 * p, 12 - size, 1), 1);
            }
        }
        SharedMemory m = new SharedMemory(1);
        for (int p = 0; p < 4; p++) {
            m.atomic(p, Check.RESERVE, Check.AT, 8, 0);
        }
        for (int p = 0; p < 4; p++) {
            Check.same("all four have the same", m.reserved(p), Check.AT);
        }
    }

    private static void noOneHasAnyAtFirst() {
        for (int p = 0; p < 4; p++) {
            SharedMemory m = new SharedMemory(1);
            Check.same("reserved", m.reserved(p), 0);
            Check.same("drop", m.drop(p), false);
            for (int size : Check.ATOMIC_SIZES) {
                Check.same("conditional", m.atomic(p, Check.CONDITIONAL, Check.BASE, size, 1), 1);
                Check.same("conditional, last", m.atomic(p, Check.CONDITIONAL, Check.EDGE - size, size, 1), 1);
            }
            Check.same("nothing was stored", m.used(), 0);
        }
    }

    private static void lostByStore() {
        for (long word : WORDS) {
            for (int form = 0; form < 3; form++) {
                for (int size : Check.SIZES) {
                    for (long at = Math.max(word - 16, Check.BASE); at <= Math.min(word + 16, Check.END - size); at++) {
                        SharedMemory m = reservedBy(2, word, form);
                        m.store(at, size, 1);
                        lostIf("store " + at + " " + size, m, 2, word, form, at, at + size);
                    }
                }
            }
        }
    }

    private static void lostByFill() {
        for (long word : WORDS) {
            for (int form = 0; form < 3; form++) {
                for (int n : new int[] {1, 3, 7, 8, 9, 24, 4096, 4097}) {
                    for (long at = word - n - 8; at <= word + 16; at++) {
                        if (at >= Check.BASE && at + n <= Check.END) {
                            SharedMemory m = reservedBy(1, word, form);
                            m.fill(at, at + n, 1);
                            lostIf("fill " + at + " of " + n, m, 1, word, form, at, at + n);
                        }
                    }
                }
                SharedMemory m = reservedBy(1, word, form);
                m.fill(Check.BASE, Check.END, 1);
                Check.same("fill of all", m.reserved(1), 0);
            }
        }
    }

    private static void lostIf(String what, SharedMemory m, int p, long word, int form, long from, long to) {
        boolean lost = from < word + 8 && to > word;
        Check.same(what + ", reserved " + word + " form " + form, m.reserved(p), lost ? 0 : word + PLACES[form]);
    }

    private static void lostByConditional() {
        for (long word : WORDS) {
            for (int form = 0; form < 3; form++) {
                for (int stored = 0; stored < 3; stored++) {
                    for (int p = 0; p < 4; p++) {
                        SharedMemory m = reservedBy(p, word, form);
                        int q = (p + 1 + stored) % 4;
                        long at = word + PLACES[stored];
                        m.atomic(q, Check.RESERVE, at, SIZES[stored], 0);
                        Check.same("it succeeds", m.atomic(q, Check.CONDITIONAL, at, SIZES[stored], 1), 0);
                        Check.same("another's is lost", m.reserved(p), 0);
                        Check.same("its conditional store fails",
                            m.atomic(p, Check.CONDITIONAL, word + PLACES[form], SIZES[form], 1), 1);
                    }
                }
            }
        }
        SharedMemory m = new SharedMemory(2);
        m.atomic(0, Check.RESERVE, Check.AT - 4, 4, 0);
        m.atomic(1, Check.RESERVE, Check.AT + 8, 4, 0);
        m.atomic(2, Check.RESERVE, Check.AT, 8, 0);
        m.atomic(2, Check.CONDITIONAL, Check.AT, 8, 1);
        Check.same("the eight bytes before", m.reserved(0), Check.AT - 4);
        Check.same("the eight bytes behind", m.reserved(1), Check.AT + 8);
    }

    private static void lostByChange() {
        for (int kind : Check.CHANGES) {
            for (int form = 0; form < 3; form++) {
                for (int changed = 0; changed < 3; changed++) {
                    for (int p = 0; p < 4; p++) {
                        SharedMemory m = reservedBy(3, Check.AT, form);
                        m.atomic(p, kind, Check.AT + PLACES[changed], SIZES[changed], 1);
                        Check.same("kind " + kind + " of " + p, m.reserved(3), 0);
                    }
                }
            }
            SharedMemory m = new SharedMemory(1);
            m.atomic(0, Check.RESERVE, Check.AT - 4, 4, 0);
            m.atomic(1, Check.RESERVE, Check.AT + 8, 4, 0);
            m.atomic(0, kind, Check.AT, 8, 1);
            Check.same("kind " + kind + ", before", m.reserved(0), Check.AT - 4);
            Check.same("kind " + kind + ", behind", m.reserved(1), Check.AT + 8);
        }
    }

    private static SharedMemory holdingSevens() {
        SharedMemory m = new SharedMemory(2);
        m.fill(Check.BASE, Check.END, 7);
        m.atomic(0, Check.RESERVE, Check.AT, 4, 0);
        return m;
    }

    private static void lostWhateverWasThere() {
        SharedMemory stored = holdingSevens();
        stored.store(Check.AT + 7, 1, 7);
        Check.same("store of the same", stored.reserved(0), 0);
        SharedMemory filled = holdingSevens();
        filled.fill(Check.AT + 7, Check.AT + 8, 7);
        Check.same("fill of the same", filled.reserved(0), 0);
        SharedMemory wholly = holdingSevens();
        wholly.fill(Check.BASE, Check.END, 7);
        Check.same("fill of whole pages with the same", wholly.reserved(0), 0);
        SharedMemory zero = new SharedMemory(1);
        zero.atomic(0, Check.RESERVE, Check.AT, 8, 0);
        zero.store(Check.AT, 8, 0);
        Check.same("0 into a new memory", zero.reserved(0), 0);
        SharedMemory conditional = holdingSevens();
        conditional.atomic(1, Check.RESERVE, Check.AT + 4, 4, 0);
        conditional.atomic(1, Check.CONDITIONAL, Check.AT + 4, 4, 0x07070707);
        Check.same("conditional store of the same", conditional.reserved(0), 0);
        long[] operands = {0, 0x07070707, 0, 0, -1, Integer.MAX_VALUE, Integer.MIN_VALUE, -1, 0};
        for (int i = 0; i < operands.length; i++) {
            SharedMemory m = holdingSevens();
            m.atomic(1, Check.CHANGES[i], Check.AT + 4, 4, operands[i]);
            Check.same("the number is as before", m.load(Check.AT + 4, 4), 0x07070707);
            Check.same("kind " + Check.CHANGES[i] + " that changes nothing", m.reserved(0), 0);
        }
    }

    private static void lostByReservingAnew() {
        SharedMemory m = new SharedMemory(1);
        m.atomic(0, Check.RESERVE, Check.AT, 8, 0);
        m.atomic(0, Check.RESERVE, Check.AT + 8, 8, 0);
        Check.same("the new address", m.reserved(0), Check.AT + 8);
        m.store(Check.AT, 8, 1);
        Check.same("a store into the old one does not matter", m.reserved(0), Check.AT + 8);
        Check.same("the new one does for a conditional store", m.atomic(0, Check.CONDITIONAL, Check.AT + 8, 8, 1), 0);
        m.atomic(0, Check.RESERVE, Check.AT, 8, 0);
        m.atomic(0, Check.RESERVE, Check.AT + 8, 8, 0);
        Check.same("the old address does not do", m.atomic(0, Check.CONDITIONAL, Check.AT, 8, 1), 1);
        m.atomic(0, Check.RESERVE, Check.AT, 8, 0);
        m.atomic(0, Check.RESERVE, Check.AT, 4, 0);
        Check.same("the old size does not do", m.atomic(0, Check.CONDITIONAL, Check.AT, 8, 1), 1);
        m.atomic(0, Check.RESERVE, Check.AT, 4, 0);
        m.atomic(0, Check.RESERVE, Check.AT, 8, 0);
        Check.same("the new size does", m.atomic(0, Check.CONDITIONAL, Check.AT, 8, 1), 0);
        m.atomic(0, Check.RESERVE, Check.AT, 8, 0);
        m.atomic(0, Check.RESERVE, Check.AT, 8, 0);
        Check.same("the same again", m.reserved(0), Check.AT);
        Check.same("one drop is enough", m.drop(0), true);
        Check.same("for there is but one", m.drop(0), false);
    }

    private static void lostByDrop() {
        for (int p = 0; p < 4; p++) {
            SharedMemory m = new SharedMemory(1);
            for (int q = 0; q < 4; q++) {
                m.atomic(q, Check.RESERVE, Check.AT, 8, 0);
            }
            m.drop(p);
            for (int q = 0; q < 4; q++) {
                Check.same("drop " + p + " reserved " + q, m.reserved(q), q == p ? 0 : Check.AT);
            }
            Check.same("a conditional store fails", m.atomic(p, Check.CONDITIONAL, Check.AT, 8, 1), 1);
        }
    }

    private static void keptByAllElse() {
        Check.changesNothing("load", m -> m.load(Check.AT, 8));
        Check.changesNothing("sum", m -> m.sum(0));
        Check.changesNothing("writes", m -> m.writes(0));
        Check.changesNothing("used", m -> m.used());
        Check.changesNothing("pages", m -> m.pages());
        Check.changesNothing("reserved", m -> m.reserved(3));
        Check.changesNothing("fill of no byte", m -> m.fill(Check.AT, Check.AT, 1));
        SharedMemory m = new SharedMemory(1);
        m.atomic(0, Check.RESERVE, Check.AT, 8, 0);
        m.atomic(1, Check.RESERVE, Check.AT, 8, 0);
        Check.same("another reserves the same", m.reserved(0), Check.AT);
        m.atomic(1, Check.RESERVE, Check.AT, 4, 0);
        Check.same("another reserves it anew", m.reserved(0), Check.AT);
        m.atomic(1, Check.CONDITIONAL, Check.AT, 8, 5);
        Check.same("another's conditional store that fails", m.reserved(0), Check.AT);
        m.atomic(1, Check.RESERVE, Check.AT, 8, 0);
        m.drop(1);
        Check.same("another drops its own", m.reserved(0), Check.AT);
        m.store(Check.AT + 8, 8, -1);
        m.store(Check.AT - 8, 8, -1);
        Check.same("stores before and behind", m.reserved(0), Check.AT);
        Check.same("and it still does", m.atomic(0, Check.CONDITIONAL, Check.AT, 8, 1), 0);
    }
}
