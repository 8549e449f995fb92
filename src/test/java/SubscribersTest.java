/** Promises 1 to 6: a new object, subscribe, move, leave, setLevel, set. */
final class SubscribersTest {
    private static final int LOW = Integer.MIN_VALUE;
    private static final int HIGH = Integer.MAX_VALUE;

    private SubscribersTest() {
    }

    static void run() {
        newObject();
        objectsAreApart();
        subscribeOrdinary();
        subscribeLater();
        subscribeRefused();
        subscribeFull();
        moveOrdinary();
        moveBack();
        moveRefused();
        leaveOrdinary();
        leaveWhileMoving();
        leaveRefused();
        setLevelOrdinary();
        setLevelRefused();
        settings();
        settingsRefused();
    }

    private static void newObject() {
        Due.topic("promise 1, a new object");
        CellEvents x = new CellEvents();
        int[] due = {0, 0, 0, 0, 3, 2, 2, 8, 0, 0, 0, 0, 0, 0};
        for (int what = 0; what < due.length; what++) {
            Due.same("whole(" + what + ")", x.whole(what), due[what]);
        }
        for (int leaf = 0; leaf < 16; leaf++) {
            for (int what = 0; what < 4; what++) {
                Due.same("leaf(" + leaf + ", " + what + ")", x.leaf(leaf, what), 0);
            }
        }
        Due.same("busiest()", x.busiest(), -1);
        Due.same("wouldReach(0, 0, 0)", x.wouldReach(0, 0, 0), 0);
        Due.same("wouldReach(0, 0, 1)", x.wouldReach(0, 0, 1), -1);
        Due.noIndex("subscriber(0, 0)", x, () -> x.subscriber(0, 0));
        Due.noIndex("event(0, 0)", x, () -> x.event(0, 0));
        Due.badState("undo()", x, () -> x.undo());
        Due.same("clearCommands()", x.clearCommands(), 0);
        Due.same("runCommands()", x.runCommands(), 0);
        Due.same("NONE", CellEvents.NONE, -1);
    }

    private static void objectsAreApart() {
        CellEvents x = new CellEvents();
        CellEvents y = new CellEvents();
        long fresh = y.digest();
        x.subscribe(0, 0, 0);
        x.publish(0, 0, 0);
        x.set(0, 9);
        x.type('a');
        x.pass(1);
        Due.same("digest of the other object", y.digest(), fresh);
        Due.same("digest of a third object", new CellEvents().digest(), fresh);
    }

    private static void subscribeOrdinary() {
        Due.topic("promise 2, subscribe");
        CellEvents x = new CellEvents();
        int[][] rows = {{0, 2, 0}, {1, 1, 15}, {2, 0, 7}, {2, 2, 7}};
        for (int s = 0; s < rows.length; s++) {
            Due.same("subscribe " + s, x.subscribe(rows[s][0], rows[s][1], rows[s][2]), s);
            Due.same("whole(0)", x.whole(0), s + 1);
            Due.same("whole(1)", x.whole(1), s + 1);
        }
        for (int s = 0; s < rows.length; s++) {
            int[] due = {rows[s][0], rows[s][1], rows[s][2], 0, rows[s][2], 1, 0, 0, 0, 0, 0, 0};
            for (int what = 0; what < due.length; what++) {
                Due.same("subscriber(" + s + ", " + what + ")", x.subscriber(s, what), due[what]);
            }
            Due.same("stay leaf", x.stay(s, 0, 0), rows[s][2]);
            Due.same("stay first tick", x.stay(s, 0, 1), 0);
            Due.same("stay end", x.stay(s, 0, 2), -1);
            Due.same("stay before", x.stay(s, 1, 0), -1);
        }
        Due.same("undo()", x.undo(), 3);
        Due.same("whole(0)", x.whole(0), 3);
        Due.same("subscribe again", x.subscribe(0, 0, 3), 3);
        Due.same("its sort", x.subscriber(3, 0), 0);
        Due.same("its stays", x.stay(3, 1, 0), -1);
    }

    private static void subscribeLater() {
        CellEvents x = new CellEvents();
        x.pass(5);
        Due.same("subscribe", x.subscribe(0, 0, 9), 0);
        Due.same("came", x.subscriber(0, 3), 5);
        Due.same("stay first tick", x.stay(0, 0, 1), 5);
        Due.same("an event of before does not reach it", x.wouldReach(9, 2, 1), 0);
        Due.same("an event of now does", x.wouldReach(9, 2, 0), 1);
        // What an undo takes back must leave nothing behind for the next one of that number.
        x.publish(9, 2, 0);
        x.pass(1);
        x.move(0, 1);
        x.leave(0);
        Due.same("undo()", x.undo(), 3);
        Due.same("undo()", x.undo(), 2);
        Due.same("undo()", x.undo(), 1);
        Due.same("undo()", x.undo(), 0);
        CellEvents y = new CellEvents();
        y.pass(5);
        y.subscribe(0, 0, 9);
        for (int what = 0; what < 12; what++) {
            Due.same("subscriber(0, " + what + ")", x.subscriber(0, what), y.subscriber(0, what));
        }
    }

    private static void subscribeRefused() {
        CellEvents x = new CellEvents();
        x.subscribe(0, 0, 0);
        for (int bad : new int[] {-1, 16, LOW, HIGH}) {
            Due.noIndex("position " + bad, x, () -> x.subscribe(0, 0, bad));
            Due.noIndex("position " + bad + " and all else", x, () -> x.subscribe(-1, 3, bad));
        }
        for (int bad : new int[] {-1, 3, LOW, HIGH}) {
            Due.badArgument("sort " + bad, x, () -> x.subscribe(bad, 0, 0));
            Due.badArgument("level " + bad, x, () -> x.subscribe(0, bad, 0));
        }
        Due.same("whole(0)", x.whole(0), 1);
    }

    private static void subscribeFull() {
        CellEvents x = new CellEvents();
        for (int s = 0; s < 8; s++) {
            Due.same("subscribe", x.subscribe(s % 3, s % 3, 2 * s), s);
        }
        Due.badState("a ninth one", x, () -> x.subscribe(0, 0, 0));
        Due.noIndex("a ninth one, no leaf", x, () -> x.subscribe(0, 0, 16));
        Due.badArgument("a ninth one, no sort", x, () -> x.subscribe(3, 0, 0));
        Due.badArgument("a ninth one, no level", x, () -> x.subscribe(0, 3, 0));
        x.leave(7);
        Due.badState("a ninth one after one is gone", x, () -> x.subscribe(0, 0, 0));
        Due.same("whole(0)", x.whole(0), 8);
        Due.same("whole(1)", x.whole(1), 7);
    }

    private static void moveOrdinary() {
        Due.topic("promise 3, move");
        CellEvents x = new CellEvents();
        x.subscribe(0, 2, 5);
        x.subscribe(1, 2, 5);
        x.pass(2);
        Due.same("move", x.move(0, 6), 5);
        Due.same("position", x.subscriber(0, 2), 6);
        Due.same("came", x.subscriber(0, 3), 2);
        Due.same("serving leaf", x.subscriber(0, 4), 5);
        Due.same("handovers", x.subscriber(0, 10), 0);
        Due.same("the other one", x.subscriber(1, 2), 5);
        Due.same("move on", x.move(0, 15), 6);
        Due.same("move to 0", x.move(1, 0), 5);
        x.pass(1);
        Due.same("move a tick later", x.move(0, 6), 15);
        Due.same("came", x.subscriber(0, 3), 3);
        Due.same("servedIn starts anew", x.servedIn(0), 4);
        Due.same("undo()", x.undo(), 3);
        Due.same("position", x.subscriber(0, 2), 15);
        Due.same("came", x.subscriber(0, 3), 2);
    }

    private static void moveBack() {
        CellEvents x = new CellEvents();
        x.subscribe(0, 2, 5);
        x.move(0, 6);
        Due.same("move back", x.move(0, 5), 6);
        Due.same("servedIn", x.servedIn(0), 0);
        x.pass(10);
        Due.same("handovers", x.subscriber(0, 10), 0);
        Due.same("stays", x.stay(0, 1, 0), -1);
    }

    private static void moveRefused() {
        CellEvents x = new CellEvents();
        x.subscribe(0, 2, 5);
        x.subscribe(2, 2, 5);
        x.subscribe(1, 2, 5);
        x.leave(2);
        for (int bad : new int[] {-1, 3, 8, LOW, HIGH}) {
            Due.noIndex("subscriber " + bad, x, () -> x.move(bad, 0));
        }
        for (int bad : new int[] {-1, 16, LOW, HIGH}) {
            Due.noIndex("leaf " + bad, x, () -> x.move(0, bad));
            Due.noIndex("a post, leaf " + bad, x, () -> x.move(1, bad));
            Due.noIndex("one that is gone, leaf " + bad, x, () -> x.move(2, bad));
        }
        Due.badState("a post", x, () -> x.move(1, 6));
        Due.badState("one that is gone", x, () -> x.move(2, 6));
        Due.badState("one that is gone, its position", x, () -> x.move(2, 5));
        Due.badState("to its position", x, () -> x.move(0, 5));
        x.move(0, 6);
        Due.badState("to its new position", x, () -> x.move(0, 6));
    }

    private static void leaveOrdinary() {
        Due.topic("promise 4, leave");
        CellEvents x = new CellEvents();
        x.subscribe(0, 2, 5);
        x.subscribe(0, 2, 5);
        x.set(1, 1);
        x.publish(5, 2, 0);
        x.publish(5, 2, 0);
        x.publish(5, 2, 0);
        x.pass(1);
        Due.same("leave", x.leave(0), 2);
        int[] due = {0, 2, 5, 0, 5, 0, 0, 3, 1, 0, 0, 0};
        for (int what = 0; what < due.length; what++) {
            Due.same("subscriber(0, " + what + ")", x.subscriber(0, what), due[what]);
        }
        Due.same("stay leaf", x.stay(0, 0, 0), 5);
        Due.same("stay first tick", x.stay(0, 0, 1), 0);
        Due.same("stay end", x.stay(0, 0, 2), 1);
        Due.same("waiting", x.waiting(0, 0), -1);
        Due.same("whole(0)", x.whole(0), 2);
        Due.same("whole(1)", x.whole(1), 1);
        Due.same("whole(8)", x.whole(8), 3);
        Due.same("lost ones", x.whole(11), 2);
        Due.same("event(1, 6)", x.event(1, 6), 1);
        Due.same("event(1, 4)", x.event(1, 4), 3);
        Due.same("event(0, 5)", x.event(0, 5), 1);
        Due.same("nor when it was there", x.wouldReach(5, 2, 1), 2);
        Due.same("nothing for it", x.wouldReach(5, 2, 0), 2);
        Due.same("leave", x.leave(1), 3);
        Due.same("lost ones", x.whole(11), 5);
        Due.same("whole(1)", x.whole(1), 0);
        Due.same("undo()", x.undo(), 3);
        Due.same("lost ones", x.whole(11), 2);
        Due.same("waiting again", x.waiting(1, 2), 2);
        Due.same("stay end again", x.stay(1, 0, 2), -1);
    }

    private static void leaveWhileMoving() {
        CellEvents x = new CellEvents();
        x.subscribe(0, 2, 5);
        x.move(0, 6);
        x.pass(1);
        Due.same("leave", x.leave(0), 0);
        x.pass(10);
        Due.same("position", x.subscriber(0, 2), 6);
        Due.same("serving leaf stays", x.subscriber(0, 4), 5);
        Due.same("handovers", x.subscriber(0, 10), 0);
        Due.same("stay end", x.stay(0, 0, 2), 1);
        Due.same("stays", x.stay(0, 1, 0), -1);
        Due.same("leaf(5, 0)", x.leaf(5, 0), 0);
        Due.same("leaf(6, 3)", x.leaf(6, 3), 0);
    }

    private static void leaveRefused() {
        CellEvents x = new CellEvents();
        x.subscribe(0, 2, 5);
        for (int bad : new int[] {-1, 1, 8, LOW, HIGH}) {
            Due.noIndex("subscriber " + bad, x, () -> x.leave(bad));
        }
        x.leave(0);
        Due.badState("leave twice", x, () -> x.leave(0));
    }

    private static void setLevelOrdinary() {
        Due.topic("promise 5, setLevel");
        CellEvents x = new CellEvents();
        x.subscribe(0, 2, 0);
        x.set(0, 0);
        x.pass(1);
        x.move(0, 15);
        x.pass(1);
        Due.same("covered", x.covered(0), 1 << 15);
        Due.same("leaf 1 at tick 0", x.wouldReach(1, 2, 2), 0);
        Due.same("setLevel", x.setLevel(0, 1), 2);
        Due.same("level", x.subscriber(0, 1), 1);
        Due.same("covered", x.covered(0), 0xCC00);
        Due.same("leaf 1 at tick 0, for a stay that is remembered", x.wouldReach(1, 2, 2), 1);
        Due.same("leaf 2 at tick 0", x.wouldReach(2, 2, 2), 0);
        Due.same("setLevel", x.setLevel(0, 0), 1);
        Due.same("covered", x.covered(0), 0xFFFF);
        Due.same("leaf 2 at tick 0", x.wouldReach(2, 2, 2), 1);
        Due.same("setLevel to the same", x.setLevel(0, 0), 0);
        Due.same("undo()", x.undo(), 3);
        Due.same("undo()", x.undo(), 2);
        Due.same("level", x.subscriber(0, 1), 1);
        x.leave(0);
        Due.same("setLevel of one that is gone", x.setLevel(0, 2), 1);
        Due.same("level", x.subscriber(0, 1), 2);
        x.subscribe(2, 0, 3);
        Due.same("setLevel of a post", x.setLevel(1, 2), 0);
    }

    private static void setLevelRefused() {
        CellEvents x = new CellEvents();
        x.subscribe(0, 2, 5);
        for (int bad : new int[] {-1, 1, 8, LOW, HIGH}) {
            Due.noIndex("subscriber " + bad, x, () -> x.setLevel(bad, 0));
            Due.noIndex("subscriber " + bad + ", level 3", x, () -> x.setLevel(bad, 3));
        }
        for (int bad : new int[] {-1, 3, LOW, HIGH}) {
            Due.badArgument("level " + bad, x, () -> x.setLevel(0, bad));
        }
    }

    private static void settings() {
        Due.topic("promise 6, set");
        CellEvents x = new CellEvents();
        int[] first = {3, 2, 2, 8};
        int[] smallest = {0, 1, 0, 0};
        int[] largest = {9, 9, 9, 20};
        for (int what = 0; what < 4; what++) {
            int before = first[what];
            for (int value = smallest[what]; value <= largest[what]; value++) {
                Due.same("set(" + what + ", " + value + ")", x.set(what, value), before);
                Due.same("whole(" + (4 + what) + ")", x.whole(4 + what), value);
                before = value;
            }
        }
        int[] due = {9, 9, 9, 20};
        for (int what = 0; what < 4; what++) {
            Due.same("whole(" + (4 + what) + ")", x.whole(4 + what), due[what]);
        }
        x.set(3, 0);
        Due.same("set to the same", x.set(3, 0), 0);
        Due.same("undo()", x.undo(), 3);
        Due.same("whole(7)", x.whole(7), 0);
        Due.same("undo()", x.undo(), 2);
        Due.same("whole(7)", x.whole(7), 20);
    }

    private static void settingsRefused() {
        CellEvents x = new CellEvents();
        for (int bad : new int[] {-1, 4, LOW, HIGH}) {
            Due.badArgument("set(" + bad + ", 1)", x, () -> x.set(bad, 1));
        }
        int[] tooSmall = {-1, 0, -1, -1};
        int[] tooLarge = {10, 10, 10, 21};
        for (int k = 0; k < 4; k++) {
            int what = k;
            for (int bad : new int[] {tooSmall[k], tooLarge[k], LOW, HIGH}) {
                Due.badArgument("set(" + what + ", " + bad + ")", x, () -> x.set(what, bad));
            }
        }
    }
}
