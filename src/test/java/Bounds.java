import java.util.ArrayList;
import java.util.List;

/** Tests of single sentences: each is named by its promise and by the words of the document that it tests. */
final class Bounds {
    static final int LOW = Integer.MIN_VALUE;
    static final int HIGH = Integer.MAX_VALUE;
    static final int NONE = CellEvents.NONE;
    static final String FIRST_LISTED =
        "If several exceptions of a method apply, the one that is listed first is thrown.";
    static final String NONE_LAST = "NONE is returned only if no exception applies.";

    private static final int STATES = 4;
    private static final List<Quote> QUOTES = new ArrayList<>();

    /** The promise that a test is named by, and the words that it tests. */
    record Quote(int promise, String words) {
    }

    interface Make {
        CellEvents make();
    }

    interface Call {
        long on(CellEvents x);
    }

    private Bounds() {
    }

    static List<Quote> quotes() {
        return QUOTES;
    }

    static void promise(int number, String words, Runnable test) {
        QUOTES.add(new Quote(number, words));
        Due.topic("promise " + number + ", \"" + words + "\"");
        try {
            test.run();
        } catch (RuntimeException | Error e) {
            Due.fail("stopped by " + e);
        }
    }

    // ---- refused calls

    static void noIndex(String what, Make make, Call call) {
        refused(what, IndexOutOfBoundsException.class, make, call);
    }

    static void badArgument(String what, Make make, Call call) {
        refused(what, IllegalArgumentException.class, make, call);
    }

    static void badState(String what, Make make, Call call) {
        refused(what, IllegalStateException.class, make, call);
    }

    /** The call throws this, and leaves the object as a twin is on which it was never made. */
    private static void refused(String what, Class<? extends RuntimeException> kind, Make make, Call call) {
        CellEvents x = make.make();
        CellEvents twin = make.make();
        String got = Due.outcome(() -> call.on(x));
        Due.holds(what + ": " + got + " is " + kind.getSimpleName(), got.equals(kind.getSimpleName()));
        alike(what, x, twin);
    }

    /** The state, each state on the undo stack, and what the command text does: all that an object holds. */
    static void alike(String what, CellEvents x, CellEvents twin) {
        Due.same(what + ": the digest", x.digest(), twin.digest());
        for (int k = 1; k <= STATES; k++) {
            String got = Due.outcome(x::undo);
            Due.holds(what + ": undo " + k, got.equals(Due.outcome(twin::undo)));
            Due.same(what + ": the digest after undo " + k, x.digest(), twin.digest());
        }
        Due.same(what + ": runCommands()", x.runCommands(), twin.runCommands());
        Due.same(what + ": the digest after the run", x.digest(), twin.digest());
    }

    // ---- maps

    static int[] outside(int least, int most) {
        return new int[] {least - 1, most + 1, LOW, HIGH};
    }

    static void type(CellEvents x, String text) {
        for (int index = 0; index < text.length(); index++) {
            x.type(text.charAt(index));
        }
    }

    /**
     * A map in the midst of things, at tick 2, with 3 events and a full undo stack: walker 0, who goes from leaf 5
     * to 6, car 1 in leaf 6, post 2 in leaf 15, and walker 3, who is gone.
     */
    static CellEvents busy() {
        CellEvents x = new CellEvents();
        x.set(1, 1);
        x.subscribe(0, 2, 5);
        x.subscribe(1, 1, 6);
        x.subscribe(2, 0, 15);
        x.subscribe(0, 0, 0);
        x.publish(5, 1, 0);
        x.publish(6, 0, 0);
        x.pass(2);
        x.leave(3);
        x.move(0, 6);
        x.publish(0, 0, 2);
        type(x, "set 0 4; go 1 3; ticks 2;");
        return x;
    }

    static CellEvents one(int sort, int level, int position) {
        CellEvents x = new CellEvents();
        x.subscribe(sort, level, position);
        return x;
    }

    static CellEvents eight() {
        CellEvents x = new CellEvents();
        for (int number = 0; number < 8; number++) {
            x.subscribe(number % 3, 2, number);
        }
        return x;
    }

    /** Subscriber 0 alone, in leaf 5, for whom so many events wait. */
    static CellEvents waiting(int events) {
        CellEvents x = one(0, 2, 5);
        for (int event = 0; event < events; event++) {
            x.publish(5, 2, 0);
        }
        return x;
    }

    static CellEvents sixty() {
        return waiting(60);
    }

    /** A walker in leaf 0, at this tick. */
    static CellEvents at(int tick) {
        CellEvents x = one(0, 2, 0);
        for (int now = 0; now < tick; now += 50) {
            x.pass(Math.min(50, tick - now));
        }
        return x;
    }

    /** A walker that was served by so many leaves: the leaf k from the tick k on, k from 0. */
    static CellEvents stays(int number) {
        CellEvents x = one(0, 2, 0);
        x.set(0, 0);
        x.set(3, 20);
        for (int leaf = 1; leaf < number; leaf++) {
            x.pass(1);
            x.move(0, leaf);
        }
        x.pass(1);
        return x;
    }
}
