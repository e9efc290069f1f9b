import java.util.Objects;

/**
 * Long runs of calls, drawn by a fixed rule, each answer compared with that of a second memory
 * that keeps to the document's words byte by byte.
 */
public final class LongRunsTest {
    private static final int RUNS = 1500;
    /** With the look at the end no object is asked more than the 512 times that the document allows. */
    private static final int CALLS = 500;
    private static final int MOST_PAGES_LOOKED_AT = 4;
    private static final int[] SIZES = {1, 2, 4, 8, 4, 8, 8, 4};
    private static final int[] KINDS = {0, 1, 2, 3, 2, 3, 2, 3, 4, 8, 12, 16, 20, 24, 28};
    private static final long[] ODD = {0, 1, 7, -1, -8, Long.MIN_VALUE, Long.MAX_VALUE, Check.BASE + (1L << 32)};

    private long seed;

    private LongRunsTest(long seed) {
        this.seed = seed;
    }

    public static void main(String[] args) {
        for (int run = 1; run <= RUNS; run++) {
            new LongRunsTest(run * 0x9e3779b97f4a7c15L).run(run);
        }
        Check.end();
    }

    private int below(int n) {
        seed = seed * 6364136223846793005L + 1442695040888963407L;
        return (int) ((seed >>> 33) % n);
    }

    private long number() {
        return switch (below(6)) {
            case 0 -> 0;
            case 1 -> below(3) - 1;
            case 2 -> below(256);
            case 3 -> (long) below(1 << 30) << 2 | below(4);
            case 4 -> -(long) below(1 << 30);
            default -> (long) below(1 << 30) << 34 ^ (long) below(1 << 30) << 5 ^ below(32);
        };
    }

    private long address(int pages) {
        if (below(40) == 0) {
            return ODD[below(ODD.length)];
        }
        long near = Check.BASE + below(pages + 1) * Check.PAGE;
        return switch (below(8)) {
            case 0 -> Check.BASE + below((int) (pages * Check.PAGE));
            case 1 -> near + below(9) - 4;
            default -> near + 8 * (below(5) - 2) + (below(2) == 0 ? 0 : 4);
        };
    }

    private int size() {
        return below(40) == 0 ? below(20) - 4 : SIZES[below(SIZES.length)];
    }

    private int processor() {
        return below(40) == 0 ? below(12) - 4 : below(4);
    }

    private int kind() {
        return below(40) == 0 ? below(40) - 4 : KINDS[below(KINDS.length)];
    }

    private void run(int run) {
        int pages = run % 50 == 0 ? 0 : 1 + below(4);
        SharedMemory got = new SharedMemory(pages);
        PlainMemory due = new PlainMemory(pages);
        for (int i = 0; i < CALLS; i++) {
            String call = oneCall(got, due);
            if (!call.isEmpty()) {
                Check.isTrue("run " + run + " call " + i + ": " + call, false);
                return;
            }
        }
        Check.same("pages at the end", got.pages(), due.pages);
        Check.same("used at the end", got.used(), due.used());
        for (int p = 0; p < Math.min(due.pages, MOST_PAGES_LOOKED_AT); p++) {
            Check.same("sum at the end", got.sum(p), due.sum(p));
            Check.same("writes at the end", got.writes(p), due.writes(p));
        }
    }

    private interface Call {
        long make();
    }

    private static String answer(Call call) {
        try {
            return Long.toString(call.make());
        } catch (RuntimeException e) {
            return e.getClass().getName();
        }
    }

    private static String compare(String what, Call got, Call due) {
        String g = answer(got);
        String d = answer(due);
        return Objects.equals(g, d) ? "" : what + " answered " + g + ", due is " + d;
    }

    private String oneCall(SharedMemory m, PlainMemory d) {
        long at = address(d.pages);
        int size = size();
        int p = processor();
        int page = below(20) == 0 ? below(2000) - 10 : below(d.pages);
        long v = number();
        switch (below(12)) {
            case 0:
                return compare("load " + at + " " + size, () -> m.load(at, size), () -> d.load(at, size));
            case 1:
            case 2:
                return compare("store " + at + " " + size + " " + v, () -> {
                    m.store(at, size, v);
                    return 0;
                }, () -> d.store(at, size, v));
            case 3:
                long to = below(3) == 0 ? address(d.pages) : at + below(9);
                return compare("fill " + at + " " + to + " " + v, () -> {
                    m.fill(at, to, (int) v);
                    return 0;
                }, () -> d.fill(at, to, (int) v));
            case 4:
                return compare("drop " + p, () -> m.drop(p) ? 1 : 0, () -> d.drop(p));
            case 5:
                return compare("reserved " + p, () -> m.reserved(p), () -> d.reserved(p));
            case 6:
                return compare("writes " + page, () -> m.writes(page), () -> d.writes(page));
            case 7:
                return below(8) == 0 ? compare("used", () -> m.used(), () -> d.used())
                    : compare("sum " + page, () -> m.sum(page), () -> d.sum(page));
            default:
                int kind = kind();
                return compare("atomic " + p + " " + kind + " " + at + " " + size + " " + v,
                    () -> m.atomic(p, kind, at, size, v), () -> d.atomic(p, kind, at, size, v));
        }
    }

    /** The document's words, with no thought of speed or room. */
    private static final class PlainMemory {
        final int pages;
        private final byte[] bytes;
        private final long[] writes;
        private final long[] at = new long[4];
        private final int[] sizes = new int[4];

        PlainMemory(int n) {
            pages = n < 1 || n > 1024 ? 1024 : n;
            bytes = new byte[pages * 4096];
            writes = new long[pages];
        }

        private boolean inside(long address) {
            return address >= Check.BASE && address < Check.BASE + bytes.length;
        }

        private void insist(boolean size, boolean index) {
            if (!size) {
                throw new IllegalArgumentException();
            }
            if (!index) {
                throw new IndexOutOfBoundsException();
            }
        }

        long load(long address, int size) {
            insist(size == 1 || size == 2 || size == 4 || size == 8, inside(address) && inside(address + size - 1));
            long v = 0;
            for (int i = 0; i < size; i++) {
                v += (bytes[(int) (address + i - Check.BASE)] & 255L) << 8 * i;
            }
            return v;
        }

        long store(long address, int size, long v) {
            insist(size == 1 || size == 2 || size == 4 || size == 8, inside(address) && inside(address + size - 1));
            boolean[] reached = new boolean[pages];
            for (int i = 0; i < size; i++) {
                storeByte(address + i, (byte) (v >> 8 * i), reached);
            }
            count(reached);
            return 0;
        }

        private void storeByte(long address, byte v, boolean[] reached) {
            bytes[(int) (address - Check.BASE)] = v;
            reached[(int) ((address - Check.BASE) / 4096)] = true;
            for (int p = 0; p < 4; p++) {
                if (at[p] != 0 && at[p] / 8 == address / 8) {
                    at[p] = 0;
                }
            }
        }

        private void count(boolean[] reached) {
            for (int i = 0; i < pages; i++) {
                writes[i] += reached[i] ? 1 : 0;
            }
        }

        long fill(long from, long to, int v) {
            insist(to >= from, to == from || inside(from) && inside(to - 1));
            boolean[] reached = new boolean[pages];
            for (long a = from; a < to; a++) {
                storeByte(a, (byte) v, reached);
            }
            count(reached);
            return 0;
        }

        long atomic(int p, int kind, long address, int size, long operand) {
            boolean known = kind >= 0 && kind <= 3 || kind > 3 && kind <= 28 && kind % 4 == 0;
            insist(known && (size == 4 || size == 8),
                p >= 0 && p < 4 && inside(address) && inside(address + size - 1));
            if (address % size != 0) {
                throw new IllegalStateException();
            }
            long old = load(address, size);
            long withSign = size == 4 ? (int) old : old;
            if (kind == 2) {
                at[p] = address;
                sizes[p] = size;
                return withSign;
            }
            if (kind == 3) {
                boolean mine = at[p] == address && sizes[p] == size;
                at[p] = 0;
                if (mine) {
                    store(address, size, operand);
                }
                return mine ? 0 : 1;
            }
            store(address, size, size == 4 ? changed(kind, (int) old, (int) operand) : changed(kind, old, operand));
            return withSign;
        }

        private static long changed(int kind, int a, int b) {
            return switch (kind) {
                case 0 -> a + b;
                case 1 -> b;
                case 4 -> a ^ b;
                case 8 -> a | b;
                case 12 -> a & b;
                case 16 -> a < b ? a : b;
                case 20 -> a > b ? a : b;
                case 24 -> Integer.compareUnsigned(a, b) < 0 ? a : b;
                default -> Integer.compareUnsigned(a, b) > 0 ? a : b;
            };
        }

        private static long changed(int kind, long a, long b) {
            return switch (kind) {
                case 0 -> a + b;
                case 1 -> b;
                case 4 -> a ^ b;
                case 8 -> a | b;
                case 12 -> a & b;
                case 16 -> a < b ? a : b;
                case 20 -> a > b ? a : b;
                case 24 -> Long.compareUnsigned(a, b) < 0 ? a : b;
                default -> Long.compareUnsigned(a, b) > 0 ? a : b;
            };
        }

        long drop(int p) {
            long had = reserved(p) != 0 ? 1 : 0;
            at[p] = 0;
            return had;
        }

        long reserved(int p) {
            insist(true, p >= 0 && p < 4);
            return at[p];
        }

        long writes(int page) {
            insist(true, page >= 0 && page < pages);
            return writes[page];
        }

        long sum(int page) {
            insist(true, page >= 0 && page < pages);
            long total = 0;
            for (int i = 0; i < 4096; i++) {
                total += (bytes[page * 4096 + i] & 255L) * (i + 1);
            }
            return total;
        }

        long used() {
            long count = 0;
            for (int page = 0; page < pages; page++) {
                count += sum(page) != 0 ? 1 : 0;
            }
            return count;
        }
    }
}
