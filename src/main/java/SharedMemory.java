import java.util.Arrays;

/** The memory of a machine with several processors, as ../shared/DOC.md promises it. */
public final class SharedMemory {
    private static final int MOST_PAGES = 1024;
    private static final int PAGE_BYTES = 4096;
    private static final int PAGE_SHIFT = 12;
    private static final int PAGE_WORDS = 512;
    private static final int PAGE_WORDS_SHIFT = 9;
    private static final int WORD_SHIFT = 3;
    private static final int WORD_BITS = 64;
    private static final long FIRST_ADDRESS = 0x80000000L;
    private static final long EACH_BYTE = 0x0101010101010101L;
    private static final int PROCESSORS = 4;
    /** No byte of memory is at the address 0, so it can stand for "no reservation". */
    private static final long NO_ADDRESS = 0;

    private static final int ADD = 0;
    private static final int SWAP = 1;
    private static final int RESERVE = 2;
    private static final int CONDITIONAL = 3;
    private static final int XOR = 4;
    private static final int OR = 8;
    private static final int AND = 12;
    private static final int LESS = 16;
    private static final int GREATER = 20;
    private static final int LESS_UNSIGNED = 24;
    private static final int GREATER_UNSIGNED = 28;

    private final int pageCount;
    /** A page stays null until something is stored into it, so that a large memory costs little. */
    private final Page[] pageTable;
    private final long[] reservedAddress;
    private final int[] reservedSize;

    public SharedMemory(int pages) {
        pageCount = pages >= 1 && pages <= MOST_PAGES ? pages : MOST_PAGES;
        pageTable = new Page[pageCount];
        reservedAddress = new long[PROCESSORS];
        reservedSize = new int[PROCESSORS];
    }

    public int pages() {
        return pageCount;
    }

    public long load(long address, int size) throws IllegalArgumentException, IndexOutOfBoundsException {
        if (!isSize(size)) {
            throw new IllegalArgumentException("no such size");
        }
        if (!isInMemory(address, size)) {
            throw new IndexOutOfBoundsException("a byte is not in memory");
        }
        return numberAt(placeOf(address), size);
    }

    public void store(long address, int size, long v) throws IllegalArgumentException, IndexOutOfBoundsException {
        if (!isSize(size)) {
            throw new IllegalArgumentException("no such size");
        }
        if (!isInMemory(address, size)) {
            throw new IndexOutOfBoundsException("a byte is not in memory");
        }
        putNumber(placeOf(address), size, v);
    }

    public void fill(long from, long to, int v) throws IllegalArgumentException, IndexOutOfBoundsException {
        if (to < from) {
            throw new IllegalArgumentException("the end is before the start");
        }
        if (to == from) {
            return;
        }
        if (from < FIRST_ADDRESS || to > endAddress()) {
            throw new IndexOutOfBoundsException("a byte is not in memory");
        }
        putSameBytes(placeOf(from), placeOf(to - 1), (v & 255) * EACH_BYTE);
    }

    public long atomic(int processor, int kind, long address, int size, long operand)
            throws IllegalArgumentException, IndexOutOfBoundsException, IllegalStateException {
        if (!isAtomicSize(size) || !isKind(kind)) {
            throw new IllegalArgumentException("no such size or kind");
        }
        if (!isProcessor(processor) || !isInMemory(address, size)) {
            throw new IndexOutOfBoundsException("no such processor, or a byte is not in memory");
        }
        if ((address & (size - 1)) != 0) {
            throw new IllegalStateException("the size does not divide the address");
        }
        if (kind == RESERVE) {
            return reserve(processor, address, size);
        }
        if (kind == CONDITIONAL) {
            return storeIfReserved(processor, address, size, operand);
        }
        return change(kind, placeOf(address), size, operand);
    }

    public boolean drop(int processor) throws IndexOutOfBoundsException {
        if (!isProcessor(processor)) {
            throw new IndexOutOfBoundsException("no such processor");
        }
        boolean had = reservedAddress[processor] != NO_ADDRESS;
        reservedAddress[processor] = NO_ADDRESS;
        return had;
    }

    public long reserved(int processor) throws IndexOutOfBoundsException {
        if (!isProcessor(processor)) {
            throw new IndexOutOfBoundsException("no such processor");
        }
        return reservedAddress[processor];
    }

    public long writes(int page) throws IndexOutOfBoundsException {
        if (!isPage(page)) {
            throw new IndexOutOfBoundsException("no such page");
        }
        Page found = pageTable[page];
        return found == null ? 0 : found.writeCount();
    }

    public long sum(int page) throws IndexOutOfBoundsException {
        if (!isPage(page)) {
            throw new IndexOutOfBoundsException("no such page");
        }
        Page found = pageTable[page];
        return found == null ? 0 : found.weightedSum();
    }

    public int used() {
        int count = 0;
        for (int i = 0; i < pageCount; i++) {
            Page page = pageTable[i];
            if (page != null && !page.isBlank()) {
                count++;
            }
        }
        return count;
    }

    private static boolean isSize(int size) {
        return size == 1 || size == 2 || size == 4 || size == 8;
    }

    private static boolean isAtomicSize(int size) {
        return size == 4 || size == 8;
    }

    private static boolean isKind(int kind) {
        switch (kind) {
            case ADD:
            case SWAP:
            case RESERVE:
            case CONDITIONAL:
            case XOR:
            case OR:
            case AND:
            case LESS:
            case GREATER:
            case LESS_UNSIGNED:
            case GREATER_UNSIGNED:
                return true;
            default:
                return false;
        }
    }

    private static boolean isProcessor(int processor) {
        return processor >= 0 && processor < PROCESSORS;
    }

    private boolean isPage(int page) {
        return page >= 0 && page < pageCount;
    }

    private long endAddress() {
        return FIRST_ADDRESS + (long) pageCount * PAGE_BYTES;
    }

    private boolean isInMemory(long address, int size) {
        // The size is taken from the end, not added to the address, which could wrap.
        return address >= FIRST_ADDRESS && address <= endAddress() - size;
    }

    /** How many bytes of memory stand before an address that is in memory. */
    private static int placeOf(long address) {
        return (int) (address - FIRST_ADDRESS);
    }

    private static long lowestBytes(int size) {
        return -1L >>> (WORD_BITS - 8 * size);
    }

    private static long withSign(long v, int size) {
        return size == 4 ? (long) (int) v : v;
    }

    private static int shiftInWord(int place) {
        return (place & 7) * 8;
    }

    private long wordAt(int word) {
        Page page = pageTable[word >> PAGE_WORDS_SHIFT];
        return page == null ? 0 : page.wordAt(word & (PAGE_WORDS - 1));
    }

    private void mergeWord(int word, long mask, long bits) {
        pageToWrite(word >> PAGE_WORDS_SHIFT).merge(word & (PAGE_WORDS - 1), mask, bits);
    }

    private Page pageToWrite(int index) {
        Page page = pageTable[index];
        if (page == null) {
            page = new Page();
            pageTable[index] = page;
        }
        return page;
    }

    private long numberAt(int place, int size) {
        int word = place >> WORD_SHIFT;
        int shift = shiftInWord(place);
        long v = wordAt(word) >>> shift;
        if (shift + 8 * size > WORD_BITS) {
            v |= wordAt(word + 1) << (WORD_BITS - shift);
        }
        return v & lowestBytes(size);
    }

    private void putNumber(int place, int size, long v) {
        int word = place >> WORD_SHIFT;
        int shift = shiftInWord(place);
        long mask = lowestBytes(size);
        mergeWord(word, mask << shift, v << shift);
        if (shift + 8 * size > WORD_BITS) {
            mergeWord(word + 1, mask >>> (WORD_BITS - shift), v >>> (WORD_BITS - shift));
        }
        noteStored(place, place + size - 1);
    }

    private void putSameBytes(int first, int last, long pattern) {
        int lastPage = last >> PAGE_SHIFT;
        for (int i = first >> PAGE_SHIFT; i <= lastPage; i++) {
            int pageStart = i << PAGE_SHIFT;
            int from = Math.max(first - pageStart, 0);
            int to = Math.min(last - pageStart, PAGE_BYTES - 1);
            pageToWrite(i).spread(from, to, pattern);
        }
        noteStored(first, last);
    }

    private void noteStored(int first, int last) {
        int lastPage = last >> PAGE_SHIFT;
        for (int i = first >> PAGE_SHIFT; i <= lastPage; i++) {
            pageToWrite(i).countWrite();
        }
        loseReservations(first >> WORD_SHIFT, last >> WORD_SHIFT);
    }

    private void loseReservations(int firstWord, int lastWord) {
        for (int i = 0; i < PROCESSORS; i++) {
            if (reservedAddress[i] != NO_ADDRESS) {
                int word = placeOf(reservedAddress[i]) >> WORD_SHIFT;
                if (word >= firstWord && word <= lastWord) {
                    reservedAddress[i] = NO_ADDRESS;
                }
            }
        }
    }

    private long reserve(int processor, long address, int size) {
        reservedAddress[processor] = address;
        reservedSize[processor] = size;
        return withSign(numberAt(placeOf(address), size), size);
    }

    private long storeIfReserved(int processor, long address, int size, long operand) {
        boolean holds = reservedAddress[processor] == address && reservedSize[processor] == size;
        reservedAddress[processor] = NO_ADDRESS;
        if (!holds) {
            return 1;
        }
        putNumber(placeOf(address), size, operand);
        return 0;
    }

    private long change(int kind, int place, int size, long operand) {
        long old = withSign(numberAt(place, size), size);
        putNumber(place, size, changed(kind, old, withSign(operand, size)));
        return old;
    }

    private static long changed(int kind, long old, long operand) {
        switch (kind) {
            case ADD:
                return old + operand;
            case XOR:
                return old ^ operand;
            case OR:
                return old | operand;
            case AND:
                return old & operand;
            case LESS:
                return Math.min(old, operand);
            case GREATER:
                return Math.max(old, operand);
            case LESS_UNSIGNED:
                return isLessUnsigned(old, operand) ? old : operand;
            case GREATER_UNSIGNED:
                return isLessUnsigned(old, operand) ? operand : old;
            default:
                return operand;
        }
    }

    /** Holds for numbers of four bytes as well, since widening with sign keeps their unsigned order. */
    private static boolean isLessUnsigned(long a, long b) {
        return a + Long.MIN_VALUE < b + Long.MIN_VALUE;
    }

    /** One page, in words of eight bytes, the lowest byte first. */
    private static final class Page {
        /** Made when words first differ, then kept for use again, so that no run makes more than one a page. */
        private long[] words;
        private boolean even;
        /** What every word of the page is while it is even. */
        private long evenWord;
        private int wordsNotZero;
        private long timesWritten;

        Page() {
            even = true;
        }

        long writeCount() {
            return timesWritten;
        }

        void countWrite() {
            timesWritten++;
        }

        boolean isBlank() {
            return wordsNotZero == 0;
        }

        long wordAt(int index) {
            return even || words == null ? evenWord : words[index];
        }

        void merge(int index, long mask, long bits) {
            long old = wordAt(index);
            long now = (old & ~mask) | (bits & mask);
            if (now == old) {
                return;
            }
            writtenOutWords()[index] = now;
            if (old == 0) {
                wordsNotZero++;
            }
            if (now == 0) {
                wordsNotZero--;
            }
        }

        private long[] writtenOutWords() {
            if (words == null) {
                words = new long[PAGE_WORDS];
            }
            if (even) {
                Arrays.fill(words, evenWord);
                even = false;
            }
            return words;
        }

        /** Makes the bytes from one place in the page to another, both included, those of a pattern. */
        void spread(int first, int last, long pattern) {
            if (first == 0 && last == PAGE_BYTES - 1) {
                makeEven(pattern);
                return;
            }
            int firstWord = first >> WORD_SHIFT;
            int lastWord = last >> WORD_SHIFT;
            for (int i = firstWord; i <= lastWord; i++) {
                long mask = -1L;
                if (i == firstWord) {
                    mask = mask << shiftInWord(first);
                }
                if (i == lastWord) {
                    mask = mask & (-1L >>> (WORD_BITS - 8 - shiftInWord(last)));
                }
                merge(i, mask, pattern);
            }
        }

        private void makeEven(long pattern) {
            even = true;
            evenWord = pattern;
            wordsNotZero = pattern == 0 ? 0 : PAGE_WORDS;
        }

        long weightedSum() {
            long total = 0;
            for (int i = 0; i < PAGE_WORDS; i++) {
                long word = wordAt(i);
                // Zero bytes above the last one that is set add nothing, so the loop may stop there.
                for (int weight = 8 * i + 1; word != 0 && weight <= 8 * i + 8; weight++) {
                    total += (word & 255) * weight;
                    word = word >>> 8;
                }
            }
            return total;
        }
    }
}
