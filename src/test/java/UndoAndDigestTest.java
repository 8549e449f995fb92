/** Promises 24 and 25: undo and digest. */
final class UndoAndDigestTest {
    private UndoAndDigestTest() {
    }

    static void run() {
        undoOfEachCall();
        keepsFour();
        undoAndGoOn();
        whatSavesNone();
        changesOfNothingAreSaved();
        restoresAll();
        restoresDroppedOnes();
        eventTakenBack();
        digestOfANewObject();
        digestIsThatOfTheValues();
        digestTellsStatesApart();
    }

    private interface Change {
        int on(CellEvents x);
    }

    private static CellEvents map() {
        CellEvents x = new CellEvents();
        x.set(0, 1);
        x.set(1, 1);
        x.subscribe(0, 2, 5);
        x.subscribe(1, 1, 6);
        x.subscribe(2, 0, 15);
        x.publish(5, 1, 0);
        x.publish(6, 0, 0);
        x.pass(2);
        x.move(0, 6);
        x.publish(0, 0, 2);
        return x;
    }

    private static void undoOfEachCall() {
        Due.topic("promise 24, undo");
        Change[] changes = {x -> x.subscribe(0, 0, 0), x -> x.move(0, 5), x -> x.leave(2), x -> x.setLevel(1, 0),
            x -> x.set(2, 9), x -> x.publish(5, 0, 1), x -> x.pass(1), x -> x.pass(50), x -> x.runCommands()};
        for (int k = 0; k < changes.length; k++) {
            CellEvents x = map();
            for (char sign : "join 0 1 2;go 1 3;event 5 1;ticks 3;".toCharArray()) {
                x.type(sign);
            }
            long[] before = values(x);
            changes[k].on(x);
            Due.same("undo of " + k, x.undo(), 3);
            sameValues("after undo of " + k, values(x), before);
            changes[k].on(x);
            Due.same("undo of " + k + " again", x.undo(), 3);
            Due.same("undo of publish", x.undo(), 2);
            Due.same("events", x.whole(2), 2);
            Due.same("undo of move", x.undo(), 1);
            Due.same("position", x.subscriber(0, 2), 5);
            Due.same("undo of pass", x.undo(), 0);
            Due.same("tick", x.whole(3), 0);
            Due.same("whole(8)", x.whole(8), 5);
            Due.badState("one more", x, () -> x.undo());
        }
    }

    private static void keepsFour() {
        CellEvents x = new CellEvents();
        Due.badState("empty", x, () -> x.undo());
        for (int k = 0; k < 9; k++) {
            x.set(3, k);
        }
        for (int left = 3; left >= 0; left--) {
            Due.same("undo()", x.undo(), left);
            Due.same("whole(7)", x.whole(7), left + 4);
        }
        Due.badState("empty", x, () -> x.undo());
        Due.same("whole(7)", x.whole(7), 4);
    }

    private static void undoAndGoOn() {
        CellEvents x = new CellEvents();
        x.set(3, 1);
        x.set(3, 2);
        x.set(3, 3);
        Due.same("undo()", x.undo(), 2);
        Due.same("undo()", x.undo(), 1);
        Due.same("whole(7)", x.whole(7), 1);
        x.set(3, 10);
        x.set(3, 11);
        x.set(3, 12);
        x.set(3, 13);
        int[] due = {12, 11, 10, 1};
        for (int k = 0; k < 4; k++) {
            Due.same("undo()", x.undo(), 3 - k);
            Due.same("whole(7)", x.whole(7), due[k]);
        }
        Due.badState("the state before was dropped", x, () -> x.undo());
    }

    private static void whatSavesNone() {
        CellEvents x = new CellEvents();
        x.set(3, 1);
        x.type('x');
        x.clearCommands();
        x.type('x');
        x.runCommands();
        x.busiest();
        x.whole(0);
        x.wouldReach(0, 0, 0);
        x.leaf(0, 0);
        Due.badState("a call that throws", x, () -> x.publish(0, 0, 1));
        Due.noIndex("a call that throws", x, () -> x.move(0, 1));
        Due.badArgument("a call that throws", x, () -> x.pass(0));
        Due.same("undo()", x.undo(), 0);
        Due.same("whole(7)", x.whole(7), 8);
        Due.same("whole(13)", x.whole(13), 1);
        Due.badState("an undo saves none", x, () -> x.undo());
    }

    private static void changesOfNothingAreSaved() {
        CellEvents x = new CellEvents();
        x.subscribe(0, 2, 0);
        x.set(0, 3);
        x.setLevel(0, 2);
        x.runCommands();
        Due.same("undo()", x.undo(), 3);
        Due.same("undo()", x.undo(), 2);
        Due.same("undo()", x.undo(), 1);
        Due.same("whole(0)", x.whole(0), 1);
        Due.same("undo()", x.undo(), 0);
        Due.same("whole(0)", x.whole(0), 0);
    }

    /** Four different states, each restored with all its values. */
    private static void restoresAll() {
        Change[] changes = {x -> x.pass(3), x -> x.leave(1), x -> x.set(2, 0), x -> x.subscribe(1, 0, 9)};
        for (int undone = 0; undone <= 4; undone++) {
            CellEvents x = map();
            for (Change change : changes) {
                change.on(x);
            }
            for (int k = 1; k <= undone; k++) {
                Due.same("undo()", x.undo(), 4 - k);
            }
            CellEvents y = map();
            for (int k = 0; k < 4 - undone; k++) {
                changes[k].on(y);
            }
            sameValues("after " + undone + " undone", values(x), values(y));
        }
    }

    private static void restoresDroppedOnes() {
        CellEvents x = new CellEvents();
        x.subscribe(0, 2, 5);
        for (int k = 0; k < 13; k++) {
            x.publish(5, 2, 0);
        }
        x.publish(5, 2, 0);
        Due.same("dropped", x.subscriber(0, 9), 2);
        Due.same("undo()", x.undo(), 3);
        Due.same("dropped", x.subscriber(0, 9), 1);
        Due.same("whole(10)", x.whole(10), 1);
        x.pass(1);
        Due.same("event", x.publish(5, 0, 0), 13);
        int[] due = {5, 0, 1, 1, 1, 0, 1};
        for (int what = 0; what < due.length; what++) {
            Due.same("event(13, " + what + ")", x.event(13, what), due[what]);
        }
    }

    /** An event that an undo took back leaves nothing behind for the next one of that number. */
    private static void eventTakenBack() {
        CellEvents x = new CellEvents();
        x.subscribe(0, 0, 5);
        x.publish(5, 2, 0);
        x.pass(1);
        Due.same("delivered", x.event(0, 5), 1);
        Due.same("undo()", x.undo(), 2);
        Due.same("not delivered", x.event(0, 5), 0);
        Due.same("undo()", x.undo(), 1);
        Due.same("publish", x.publish(9, 1, 0), 0);
        int[] due = {9, 1, 0, 0, 1, 0, 1};
        for (int what = 0; what < due.length; what++) {
            Due.same("event(0, " + what + ")", x.event(0, what), due[what]);
        }
    }

    /** What the digest is made of, but for the number of saved states. */
    private static long[] values(CellEvents x) {
        java.util.ArrayList<Long> all = new java.util.ArrayList<>();
        for (int what = 0; what < 14; what++) {
            all.add((long) x.whole(what));
        }
        for (int s = 0; s < x.whole(0); s++) {
            for (int what = 0; what < 12; what++) {
                all.add((long) x.subscriber(s, what));
            }
            for (int index = 0; x.stay(s, index, 0) != -1; index++) {
                for (int what = 0; what < 3; what++) {
                    all.add((long) x.stay(s, index, what));
                }
            }
            for (int index = 0; x.waiting(s, index) != -1; index++) {
                all.add((long) x.waiting(s, index));
            }
            all.add((long) x.servedIn(s));
            all.add((long) x.covered(s));
        }
        for (int e = 0; e < x.whole(2); e++) {
            for (int what = 0; what < 7; what++) {
                all.add((long) x.event(e, what));
            }
        }
        for (int leaf = 0; leaf < 16; leaf++) {
            for (int what = 0; what < 4; what++) {
                all.add((long) x.leaf(leaf, what));
            }
        }
        all.add((long) x.busiest());
        long[] row = new long[all.size()];
        for (int k = 0; k < row.length; k++) {
            row[k] = all.get(k);
        }
        return row;
    }

    private static void sameValues(String what, long[] got, long[] due) {
        Due.same(what + ", how many", got.length, due.length);
        for (int k = 0; k < Math.min(got.length, due.length); k++) {
            Due.same(what + ", value " + k, got[k], due[k]);
        }
    }

    private static long hash(int states, long[] values) {
        long h = 31L * 18526 + states;
        for (long v : values) {
            h = 31 * h + v;
        }
        return h;
    }

    private static void digestOfANewObject() {
        Due.topic("promise 25, digest");
        long h = 18526;
        int[] whole = {0, 0, 0, 0, 3, 2, 2, 8, 0, 0, 0, 0, 0, 0};
        h = 31 * h;
        for (int v : whole) {
            h = 31 * h + v;
        }
        for (int k = 0; k < 64; k++) {
            h = 31 * h;
        }
        h = 31 * h - 1;
        Due.same("digest()", new CellEvents().digest(), h);
    }

    private static void digestIsThatOfTheValues() {
        CellEvents x = map();
        Due.same("digest()", x.digest(), hash(4, values(x)));
        x.type('q');
        Due.same("undo()", x.undo(), 3);
        Due.same("digest()", x.digest(), hash(3, values(x)));
        CellEvents y = map();
        y.pass(4);
        y.leave(0);
        y.move(1, 15);
        Due.same("digest()", y.digest(), hash(4, values(y)));
        Due.same("digest() changes nothing", y.digest(), hash(4, values(y)));
        CellEvents z = new CellEvents();
        z.subscribe(0, 2, 5);
        z.set(0, 0);
        for (int k = 0; k < 12; k++) {
            z.publish(5, 2, 0);
            z.move(0, k % 2 == 0 ? 6 : 5);
            z.pass(1);
        }
        Due.same("digest() with ten stays", z.digest(), hash(4, values(z)));
    }

    private static void digestTellsStatesApart() {
        CellEvents x = map();
        CellEvents y = map();
        Due.same("the same calls", x.digest(), y.digest());
        y.set(2, 2);
        Due.same("one more state on the full stack", x.digest(), y.digest());
        y.undo();
        Due.holds("one state less", x.digest() != y.digest());
        CellEvents z = map();
        z.type(' ');
        Due.holds("a longer text", x.digest() != z.digest());
    }
}
