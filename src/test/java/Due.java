/** Counts the answers that are as due, and prints those that are not. */
final class Due {
    interface Call {
        long answer();
    }

    static int passed = 0;
    static int failed = 0;
    private static String topic = "";
    private static final int SHOWN = 200;

    private Due() {
    }

    static void topic(String name) {
        topic = name;
    }

    static void same(String what, long got, long want) {
        if (got == want) {
            passed++;
        } else {
            fail(what + " answered " + got + ", due is " + want);
        }
    }

    static void holds(String what, boolean got) {
        same(what, got ? 1 : 0, 1);
    }

    static void answers(String what, long want, Call call) {
        String got = outcome(call);
        if (got.equals(Long.toString(want))) {
            passed++;
        } else {
            fail(what + " answered " + got + ", due is " + want);
        }
    }

    /** The call must throw exactly this exception, and leave the object as it was. */
    static void refuses(String what, Class<? extends RuntimeException> kind, CellEvents x, Call call) {
        long before = x.digest();
        String got = outcome(call);
        if (got.equals(kind.getSimpleName())) {
            passed++;
        } else {
            fail(what + " answered " + got + ", due is " + kind.getSimpleName());
        }
        same(what + " changes the digest", x.digest(), before);
    }

    static void noIndex(String what, CellEvents x, Call call) {
        refuses(what, IndexOutOfBoundsException.class, x, call);
    }

    static void badArgument(String what, CellEvents x, Call call) {
        refuses(what, IllegalArgumentException.class, x, call);
    }

    static void badState(String what, CellEvents x, Call call) {
        refuses(what, IllegalStateException.class, x, call);
    }

    /** The answer as a text, or the plain name of what the call throws. */
    static String outcome(Call call) {
        try {
            return Long.toString(call.answer());
        } catch (RuntimeException | Error e) {
            return e.getClass().getSimpleName();
        }
    }

    static void fail(String message) {
        failed++;
        if (failed <= SHOWN) {
            System.out.println(topic + ": " + message);
        }
    }
}
