/** Promise 10: sum. */
public final class Promise10SumTest {
    public static void main(String[] args) {
        weighsEachPlace();
        addsAllBytes();
        greatest();
        wrongPages();
        Check.end();
    }

    private static void weighsEachPlace() {
        for (int i = 0; i < 4096; i++) {
            SharedMemory m = new SharedMemory(2);
            m.store(Check.BASE + Check.PAGE + i, 1, 200);
            Check.same("byte " + i, m.sum(1), 200L * (i + 1));
            Check.same("the other page", m.sum(0), 0);
        }
    }

    private static void addsAllBytes() {
        SharedMemory m = new SharedMemory(1);
        long due = 0;
        for (int i = 0; i < 400; i++) {
            int place = i * 41 % 4096;
            int v = i * 7 + 129 & 255;
            due += (long) (place + 1) * v;
            m.store(Check.BASE + place, 1, v);
        }
        Check.same("400 bytes", m.sum(0), due);
        m.fill(Check.BASE, Check.BASE + Check.PAGE, 0);
        Check.same("none", m.sum(0), 0);
    }

    private static void greatest() {
        SharedMemory m = new SharedMemory(1);
        m.fill(Check.BASE, Check.BASE + Check.PAGE, 255);
        Check.same("all 255", m.sum(0), 255L * 8390656L);
        m.store(Check.BASE + 4095, 1, 0);
        Check.same("but for the last", m.sum(0), 255L * (8390656L - 4096));
    }

    private static void wrongPages() {
        SharedMemory m = new SharedMemory(2);
        for (int page : new int[] {-1, 2, 3, 1023, 1024, Integer.MAX_VALUE, Integer.MIN_VALUE}) {
            Check.failsAndKeeps("sum " + page, Check.INDEX, m, () -> m.sum(page));
        }
    }
}
