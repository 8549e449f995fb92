import java.math.BigInteger;
import java.util.ArrayList;
import java.util.List;

/** Each sentence that names a boundary case, of promises 24 and 25. */
final class UndoBoundsTest {
    private static final String SAVES = "saves the whole state but the command text on an undo stack when it ends"
        + " normally, also if it changes nothing";

    private UndoBoundsTest() {
    }

    static void run() {
        undo();
        digest();
    }

    private static void undo() {
        Bounds.promise(24, SAVES, UndoBoundsTest::undoableCalls);
        Bounds.promise(24, "also if it changes nothing", UndoBoundsTest::changesOfNothing);
        Bounds.promise(24, "the whole state but the command text", UndoBoundsTest::textIsNotSaved);
        Bounds.promise(24, "Every method that is marked \"undoable\"", UndoBoundsTest::callsThatSaveNone);
        Bounds.promise(24, "The saved state is the one from before the call.", UndoBoundsTest::stateFromBefore);
        Bounds.promise(24, "The stack keeps the latest 4 saved states and drops older ones.", UndoBoundsTest::fourAtMost);
        Bounds.promise(24, "Restores the latest saved state and removes it from the undo stack.",
            UndoBoundsTest::latestIsRemoved);
        Bounds.promise(24, "Returns the number of states that are left on the stack.", UndoBoundsTest::statesThatAreLeft);
        Bounds.promise(24, "Throws `IllegalStateException` if the stack is empty", UndoBoundsTest::emptyStack);
        Bounds.promise(24, "A call that throws an exception changes nothing.", UndoBoundsTest::refusedCallsSaveNone);
    }

    /** Each undoable call, in a way that Bounds.busy() allows. */
    private static final Bounds.Call[] UNDOABLE = {x -> x.subscribe(1, 1, 9), x -> x.move(1, 0), x -> x.leave(0),
        x -> x.setLevel(2, 1), x -> x.set(2, 9), x -> x.publish(15, 0, 1), x -> x.pass(50), CellEvents::runCommands};

    private static void undoableCalls() {
        for (int k = 0; k < UNDOABLE.length; k++) {
            CellEvents x = Bounds.busy();
            CellEvents twin = Bounds.busy();
            long before = x.digest();
            UNDOABLE[k].on(x);
            Due.holds("call " + k + " changes something", x.digest() != before);
            Due.same("undo of call " + k, x.undo(), 3);
            // The call dropped the oldest of four states; of the twin the same is done by a call of no matter.
            twin.set(0, 3);
            twin.undo();
            Bounds.alike("after undo of call " + k, x, twin);
        }
    }

    private static void changesOfNothing() {
        Bounds.Call[] calls = {x -> x.setLevel(0, 2), x -> x.set(0, 3), CellEvents::runCommands};
        for (int k = 0; k < calls.length; k++) {
            CellEvents x = Bounds.one(0, 2, 5);
            x.undo();
            x.subscribe(0, 2, 5);
            calls[k].on(x);
            Due.same("undo of call " + k, x.undo(), 1);
            Due.same("the subscriber stays", x.whole(0), 1);
            Due.same("undo of subscribe", x.undo(), 0);
            Due.same("the subscriber is taken back", x.whole(0), 0);
        }
        CellEvents y = new CellEvents();
        Bounds.type(y, "quit 0;");
        Due.same("a run of no command", y.runCommands(), 0);
        Due.same("undo of it", y.undo(), 0);
    }

    private static void textIsNotSaved() {
        CellEvents x = new CellEvents();
        x.set(0, 9);
        Bounds.type(x, "set 0 1;");
        x.undo();
        Due.same("what was typed since stays", x.whole(13), 8);
        x.set(0, 9);
        x.clearCommands();
        x.undo();
        Due.same("what was emptied since stays so", x.whole(13), 0);
        Bounds.type(x, "set 0 7;");
        x.set(0, 9);
        x.clearCommands();
        Bounds.type(x, "set 0 5;");
        x.undo();
        Due.same("runCommands()", x.runCommands(), 1);
        Due.same("the text of now was run", x.whole(4), 5);
    }

    private static void callsThatSaveNone() {
        Bounds.Call[] calls = {x -> x.subscriber(0, 0), x -> x.stay(0, 0, 0), x -> x.waiting(0, 0), x -> x.event(0, 0),
            x -> x.leaf(0, 0), x -> x.whole(0), x -> x.wouldReach(0, 0, 0), x -> x.reason(0, 0, 0), x -> x.servedIn(0),
            x -> x.emptyIn(0), x -> x.covered(0), CellEvents::busiest, CellEvents::digest};
        for (int k = 0; k < calls.length; k++) {
            CellEvents x = Bounds.waiting(1);
            CellEvents twin = Bounds.waiting(1);
            calls[k].on(x);
            Bounds.alike("after call " + k, x, twin);
        }
        CellEvents y = Bounds.waiting(1);
        y.type('x');
        y.runCommands();
        y.clearCommands();
        Due.same("undo()", y.undo(), 1);
        Due.same("undo()", y.undo(), 0);
        Bounds.badState("an undo saves none", () -> {
            CellEvents z = new CellEvents();
            z.set(0, 1);
            z.undo();
            return z;
        }, CellEvents::undo);
    }

    private static void stateFromBefore() {
        CellEvents x = Bounds.waiting(3);
        x.pass(1);
        Due.same("delivered", x.whole(9), 2);
        x.undo();
        Due.same("none is delivered", x.whole(9), 0);
        Due.same("tick", x.whole(3), 0);
        Due.same("the events", x.whole(2), 3);
        Due.same("of one event", x.event(0, 5), 0);
        Due.same("in the leaf", x.leaf(5, 1), 0);
        for (int index = 0; index < 3; index++) {
            Due.same("what waits", x.waiting(0, index), index);
        }
        Due.same("pass(1) once more", x.pass(1), 2);
        CellEvents y = Bounds.waiting(13);
        Due.same("dropped", y.whole(10), 1);
        y.undo();
        Due.same("none is dropped", y.whole(10), 0);
        Due.same("none is dropped", y.subscriber(0, 9), 0);
        Due.same("twelve wait", y.subscriber(0, 6), 12);
        CellEvents z = Bounds.waiting(12);
        z.leave(0);
        Due.same("lost", z.whole(11), 12);
        z.undo();
        Due.same("none is lost", z.whole(11), 0);
        Due.same("it is there", z.subscriber(0, 5), 1);
        Due.same("its stay goes on", z.stay(0, 0, 2), Bounds.NONE);
    }

    private static void fourAtMost() {
        for (int calls = 0; calls <= 13; calls++) {
            CellEvents x = new CellEvents();
            for (int k = 1; k <= calls; k++) {
                x.set(3, k);
            }
            int states = Math.min(calls, 4);
            for (int left = states - 1; left >= 0; left--) {
                Due.same("of " + calls + ", undo()", x.undo(), left);
                int restored = calls - states + left;
                Due.same("of " + calls + ", the state", x.whole(7), restored == 0 ? 8 : restored);
            }
            Due.same("of " + calls + ", no more", Due.outcome(x::undo).equals("IllegalStateException") ? 1 : 0, 1);
        }
    }

    private static void latestIsRemoved() {
        CellEvents x = new CellEvents();
        for (int k = 1; k <= 5; k++) {
            x.set(3, k);
        }
        x.undo();
        x.undo();
        Due.same("two taken back", x.whole(7), 3);
        for (int k = 11; k <= 13; k++) {
            x.set(3, k);
        }
        int[] due = {12, 11, 3, 2};
        for (int k = 0; k < 4; k++) {
            x.undo();
            Due.same("the state, after " + (k + 1), x.whole(7), due[k]);
        }
        Bounds.badState("the oldest one was dropped", () -> {
            CellEvents y = new CellEvents();
            for (int k = 0; k < 5; k++) {
                y.set(3, k);
            }
            for (int k = 0; k < 4; k++) {
                y.undo();
            }
            return y;
        }, CellEvents::undo);
    }

    private static void statesThatAreLeft() {
        CellEvents x = new CellEvents();
        x.set(0, 1);
        Due.same("of one", x.undo(), 0);
        x.set(0, 1);
        x.set(0, 2);
        Due.same("of two", x.undo(), 1);
        Due.same("of the one that is left", x.undo(), 0);
        Due.same("of more than four", Bounds.waiting(12).undo(), 3);
    }

    private static void emptyStack() {
        Bounds.badState("new", CellEvents::new, CellEvents::undo);
        Bounds.badState("after four", () -> {
            CellEvents x = Bounds.busy();
            for (int k = 0; k < 4; k++) {
                x.undo();
            }
            return x;
        }, CellEvents::undo);
        Bounds.badState("after what saves none", () -> {
            CellEvents x = new CellEvents();
            x.type('x');
            x.runCommands();
            return x;
        }, CellEvents::undo);
    }

    private static void refusedCallsSaveNone() {
        Bounds.Call[] calls = {x -> x.subscribe(0, 0, 16), x -> x.subscribe(3, 0, 0), x -> x.move(0, 16),
            x -> x.move(0, 5), x -> x.leave(1), x -> x.setLevel(1, 0), x -> x.setLevel(0, 3), x -> x.set(4, 0),
            x -> x.publish(16, 0, 0), x -> x.publish(0, 3, 0), x -> x.publish(0, 0, 1), x -> x.pass(0),
            x -> x.type(128)};
        for (int k = 0; k < calls.length; k++) {
            Bounds.Call call = calls[k];
            CellEvents x = Bounds.waiting(1);
            CellEvents twin = Bounds.waiting(1);
            Due.holds("call " + k + " throws", Due.outcome(() -> call.on(x)).endsWith("Exception"));
            Bounds.alike("after call " + k, x, twin);
        }
    }

    // ---- promise 25

    private static void digest() {
        Bounds.promise(25, "It starts with h = 18526.", UndoBoundsTest::digestOfNothing);
        Bounds.promise(25, "h becomes 31 * h + v (long arithmetic, overflow wraps)", UndoBoundsTest::digestWraps);
        Bounds.promise(25, "the number of states on the undo stack", UndoBoundsTest::digestOfTheStack);
        Bounds.promise(25, "whole() of 0 to 13", UndoBoundsTest::digestOfTheText);
        Bounds.promise(25, "stay() of 0 to 2 for each remembered stay from the latest one on",
            UndoBoundsTest::digestOfTheStays);
        Bounds.promise(25, "waiting() for each event in its inbox", UndoBoundsTest::digestOfTheInboxes);
        Bounds.promise(25, "for each event event() of 0 to 6", UndoBoundsTest::digestOfTheEvents);
        Bounds.promise(25, "for each subscriber in turn subscriber() of 0 to 11", UndoBoundsTest::digestOfEight);
        Bounds.promise(25, "Returns the hash.", UndoBoundsTest::digestChangesNothing);
    }

    /** The values in their order, told by the calls that the document names, without a wrap until the end. */
    private static long hashOf(int states, CellEvents x) {
        List<Integer> values = new ArrayList<>();
        values.add(states);
        for (int what = 0; what <= 13; what++) {
            values.add(x.whole(what));
        }
        for (int number = 0; number < x.whole(0); number++) {
            for (int what = 0; what <= 11; what++) {
                values.add(x.subscriber(number, what));
            }
            for (int index = 0; x.stay(number, index, 0) != Bounds.NONE; index++) {
                for (int what = 0; what <= 2; what++) {
                    values.add(x.stay(number, index, what));
                }
            }
            for (int index = 0; x.waiting(number, index) != Bounds.NONE; index++) {
                values.add(x.waiting(number, index));
            }
            values.add(x.servedIn(number));
            values.add(x.covered(number));
        }
        for (int event = 0; event < x.whole(2); event++) {
            for (int what = 0; what <= 6; what++) {
                values.add(x.event(event, what));
            }
        }
        for (int leaf = 0; leaf <= 15; leaf++) {
            for (int what = 0; what <= 3; what++) {
                values.add(x.leaf(leaf, what));
            }
        }
        values.add(x.busiest());
        BigInteger hash = BigInteger.valueOf(18526);
        for (int value : values) {
            hash = hash.multiply(BigInteger.valueOf(31)).add(BigInteger.valueOf(value));
        }
        return hash.longValue();
    }

    private static void sameDigest(String what, int states, CellEvents x) {
        long got = x.digest();
        Due.same(what, got, hashOf(states, x));
    }

    private static void digestOfNothing() {
        sameDigest("new", 0, new CellEvents());
        BigInteger hash = BigInteger.valueOf(18526).multiply(BigInteger.valueOf(31));
        int[] whole = {0, 0, 0, 0, 3, 2, 2, 8, 0, 0, 0, 0, 0, 0};
        for (int value : whole) {
            hash = hash.multiply(BigInteger.valueOf(31)).add(BigInteger.valueOf(value));
        }
        hash = hash.multiply(BigInteger.valueOf(31).pow(65)).subtract(BigInteger.ONE);
        Due.same("by hand", new CellEvents().digest(), hash.longValue());
    }

    private static void digestWraps() {
        sameDigest("in the midst of things", 4, Bounds.busy());
        CellEvents x = Bounds.busy();
        boolean negative = false;
        boolean positive = false;
        for (int k = 0; k < 30; k++) {
            long hash = x.digest();
            negative |= hash < 0;
            positive |= hash > 0;
            x.type(' ');
        }
        Due.holds("some are negative", negative);
        Due.holds("some are positive", positive);
    }

    private static void digestOfTheStack() {
        for (int calls = 1; calls <= 6; calls++) {
            CellEvents x = new CellEvents();
            for (int k = 0; k < calls; k++) {
                x.set(0, 3);
            }
            sameDigest("after " + calls, Math.min(calls, 4), x);
        }
        CellEvents y = new CellEvents();
        y.set(0, 3);
        y.undo();
        Due.same("with none again", y.digest(), new CellEvents().digest());
    }

    private static void digestOfTheText() {
        CellEvents x = new CellEvents();
        CellEvents y = new CellEvents();
        Bounds.type(x, "abc");
        Bounds.type(y, "xyz");
        sameDigest("with three bytes", 0, x);
        Due.same("its length alone", x.digest(), y.digest());
    }

    private static void digestOfTheStays() {
        sameDigest("one", 1, Bounds.one(0, 2, 5));
        sameDigest("ten", 4, Bounds.stays(10));
        sameDigest("eleven", 4, Bounds.stays(11));
    }

    private static void digestOfTheInboxes() {
        sameDigest("empty", 1, Bounds.waiting(0));
        sameDigest("full", 4, Bounds.waiting(12));
        sameDigest("one was dropped", 4, Bounds.waiting(13));
        CellEvents x = Bounds.waiting(3);
        x.leave(0);
        sameDigest("of one that is gone", 4, x);
    }

    private static void digestOfTheEvents() {
        CellEvents x = new CellEvents();
        x.publish(15, 1, 0);
        sameDigest("an event for nobody", 1, x);
        CellEvents y = new CellEvents();
        for (int event = 0; event < 20; event++) {
            y.publish(event % 16, event % 3, 0);
        }
        sameDigest("20 events for nobody", 4, y);
    }

    private static void digestOfEight() {
        CellEvents x = Bounds.eight();
        x.move(0, 9);
        x.publish(3, 0, 0);
        sameDigest("eight", 4, x);
        CellEvents y = Bounds.eight();
        y.move(0, 9);
        y.publish(3, 0, 0);
        y.leave(4);
        sameDigest("eight, of whom one is gone", 4, y);
    }

    private static void digestChangesNothing() {
        CellEvents x = Bounds.busy();
        long first = x.digest();
        Due.same("once more", x.digest(), first);
        Bounds.alike("after it", x, Bounds.busy());
    }
}
