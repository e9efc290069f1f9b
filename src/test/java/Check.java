import java.util.function.LongSupplier;

/** What the tests share: it compares answers, prints each wrong one, and ends the test with exit code 1. */
final class Check {
    static final long BASE = 1L << 31;
    static final long PAGE = 4096;

    static final Class<? extends Exception> ARGUMENT = IllegalArgumentException.class;
    static final Class<? extends Exception> INDEX = IndexOutOfBoundsException.class;
    static final Class<? extends Exception> STATE = IllegalStateException.class;

    private static int wrong = 0;
    private static int asked = 0;

    private Check() {
    }

    static void same(String what, long got, long want) {
        asked++;
        if (got != want) {
            tell(what + " answered " + got + ", due is " + want);
        }
    }

    static void same(String what, boolean got, boolean want) {
        asked++;
        if (got != want) {
            tell(what + " answered " + got + ", due is " + want);
        }
    }

    static void isTrue(String what, boolean holds) {
        same(what, holds, true);
    }

    /** The class must be just this one: the machine's own ArrayIndexOutOfBoundsException would be wrong. */
    static void fails(String what, Class<? extends Exception> want, Runnable call) {
        asked++;
        Class<?> got = null;
        try {
            call.run();
        } catch (RuntimeException e) {
            got = e.getClass();
        }
        if (got != want) {
            tell(what + " threw " + got + ", due is " + want);
        }
    }

    static void failsAnswer(String what, Class<? extends Exception> want, LongSupplier call) {
        fails(what, want, () -> call.getAsLong());
    }

    /** All that can be seen of a memory of few pages, as one text, to show that a call changed nothing. */
    static String seen(SharedMemory m) {
        StringBuilder text = new StringBuilder();
        text.append(m.pages()).append(' ').append(m.used());
        for (int p = 0; p < 4; p++) {
            text.append(" r").append(m.reserved(p));
        }
        for (int page = 0; page < m.pages(); page++) {
            text.append(" w").append(m.writes(page)).append(" s").append(m.sum(page));
            for (long at = BASE + page * PAGE; at < BASE + (page + 1) * PAGE; at += 8) {
                long v = m.load(at, 8);
                if (v != 0) {
                    text.append(' ').append(at).append('=').append(v);
                }
            }
        }
        return text.toString();
    }

    static void failsAndKeeps(String what, Class<? extends Exception> want, SharedMemory m, Runnable call) {
        String before = seen(m);
        fails(what, want, call);
        isTrue(what + " changed nothing", before.equals(seen(m)));
    }

    static void end() {
        if (asked == 0) {
            tell("nothing was asked");
        }
        if (wrong != 0) {
            System.out.println(wrong + " of " + asked + " are wrong");
            System.exit(1);
        }
    }

    private static void tell(String text) {
        wrong++;
        if (wrong <= 40) {
            System.out.println(text);
        }
    }
}
