/** Promises 9 to 14: subscriber, stay, waiting, event, leaf, whole. */
final class ValuesTest {
    private static final int LOW = Integer.MIN_VALUE;
    private static final int HIGH = Integer.MAX_VALUE;

    private ValuesTest() {
    }

    static void run() {
        subscriberValues();
        stayValues();
        waitingValues();
        eventValues();
        eventOfEight();
        leafValues();
        wholeValues();
        readingChangesNothing();
        refusedIndices();
        refusedArguments();
    }

    /**
     * A walker 0, a car 1 and a post 2, of which the car is gone at tick 3. Leaf 5 serves the walker
     * up to tick 2, leaf 6 from then on; the capacity is 1.
     */
    private static CellEvents story() {
        CellEvents x = new CellEvents();
        x.set(0, 1);
        x.set(1, 1);
        x.set(2, 3);
        x.subscribe(0, 2, 5);
        x.subscribe(1, 1, 5);
        x.subscribe(2, 0, 15);
        x.publish(5, 2, 0);
        x.publish(5, 2, 0);
        x.publish(10, 1, 0);
        x.pass(1);
        x.move(0, 6);
        x.publish(4, 1, 0);
        x.pass(2);
        x.leave(1);
        x.publish(6, 2, 1);
        return x;
    }

    private static void rows(String name, int[] due, java.util.function.IntUnaryOperator got) {
        for (int what = 0; what < due.length; what++) {
            Due.same(name + " " + what, got.applyAsInt(what), due[what]);
        }
    }

    private static void subscriberValues() {
        Due.topic("promise 9, subscriber");
        CellEvents x = story();
        // Tick 0: event 0 to the walker in leaf 5 (the car waits), event 0 to the post in leaf 15.
        // Tick 1: event 1 to the walker, who came at 1 and dwells 1, event 1 to the post.
        // Tick 2: leaf 6 serves the walker, event 3 waits: handover up to 5; event 0 to the car; event 2 to the post.
        rows("subscriber(0", new int[] {0, 2, 6, 1, 6, 1, 2, 4, 2, 0, 1, 5}, what -> x.subscriber(0, what));
        rows("subscriber(1", new int[] {1, 1, 5, 0, 5, 0, 0, 3, 1, 0, 0, 0}, what -> x.subscriber(1, what));
        rows("subscriber(2", new int[] {2, 0, 15, 0, 15, 1, 2, 5, 3, 0, 0, 0}, what -> x.subscriber(2, what));
    }

    private static void stayValues() {
        Due.topic("promise 10, stay");
        CellEvents x = story();
        rows("stay(0, 0", new int[] {6, 2, -1}, what -> x.stay(0, 0, what));
        rows("stay(0, 1", new int[] {5, 0, 2}, what -> x.stay(0, 1, what));
        rows("stay(1, 0", new int[] {5, 0, 3}, what -> x.stay(1, 0, what));
        rows("stay(2, 0", new int[] {15, 0, -1}, what -> x.stay(2, 0, what));
        for (int what = 0; what < 3; what++) {
            Due.same("no such stay", x.stay(0, 2, what), -1);
            Due.same("no such stay", x.stay(1, 1, what), -1);
            Due.same("no such stay", x.stay(2, 10, what), -1);
            Due.same("no such stay", x.stay(2, HIGH, what), -1);
        }
    }

    private static void waitingValues() {
        Due.topic("promise 11, waiting");
        CellEvents x = story();
        rows("waiting(0", new int[] {3, 4, -1, -1}, index -> x.waiting(0, index));
        rows("waiting(1", new int[] {-1, -1}, index -> x.waiting(1, index));
        rows("waiting(2", new int[] {3, 4, -1}, index -> x.waiting(2, index));
        Due.same("waiting(0, 11)", x.waiting(0, 11), -1);
        Due.same("waiting(0, 12)", x.waiting(0, 12), -1);
        Due.same("waiting(0, HIGH)", x.waiting(0, HIGH), -1);
        CellEvents y = new CellEvents();
        y.subscribe(0, 2, 0);
        for (int k = 0; k < 12; k++) {
            y.publish(0, 2, 0);
        }
        Due.same("waiting(0, 11)", y.waiting(0, 11), 11);
        Due.same("waiting(0, 12)", y.waiting(0, 12), -1);
        y.pass(2);
        Due.same("waiting(0, 0)", y.waiting(0, 0), 4);
        Due.same("waiting(0, 7)", y.waiting(0, 7), 11);
        Due.same("waiting(0, 8)", y.waiting(0, 8), -1);
    }

    private static void eventValues() {
        Due.topic("promise 12, event");
        CellEvents x = story();
        rows("event(0", new int[] {5, 2, 0, 0, 7, 7, 0}, what -> x.event(0, what));
        rows("event(1", new int[] {5, 2, 0, 0, 7, 5, 0}, what -> x.event(1, what));
        rows("event(2", new int[] {10, 1, 0, 0, 4, 4, 0}, what -> x.event(2, what));
        rows("event(3", new int[] {4, 1, 1, 1, 7, 0, 2}, what -> x.event(3, what));
        rows("event(4", new int[] {6, 2, 2, 3, 5, 0, 2}, what -> x.event(4, what));
    }

    private static void eventOfEight() {
        CellEvents x = new CellEvents();
        for (int s = 0; s < 8; s++) {
            x.subscribe(s % 3, 2, 4 + s % 2);
        }
        x.publish(4, 1, 0);
        rows("event(0", new int[] {4, 1, 0, 0, 255, 0, 8}, what -> x.event(0, what));
        x.pass(1);
        // Two in each of the leaves 4 and 5.
        rows("event(0", new int[] {4, 1, 0, 0, 255, 15, 4}, what -> x.event(0, what));
        x.leave(7);
        rows("event(0", new int[] {4, 1, 0, 0, 255, 15, 3}, what -> x.event(0, what));
    }

    private static void leafValues() {
        Due.topic("promise 13, leaf");
        CellEvents x = story();
        for (int leaf = 0; leaf < 16; leaf++) {
            int[] due = {0, 0, 0, 0};
            if (leaf == 5) {
                due = new int[] {0, 3, 0, 0};
            } else if (leaf == 6) {
                due = new int[] {1, 0, 2, 1};
            } else if (leaf == 15) {
                due = new int[] {1, 3, 2, 1};
            }
            int number = leaf;
            rows("leaf(" + leaf, due, what -> x.leaf(number, what));
        }
        x.move(0, 15);
        rows("leaf(6", new int[] {1, 0, 2, 0}, what -> x.leaf(6, what));
        rows("leaf(15", new int[] {1, 3, 2, 2}, what -> x.leaf(15, what));
        x.subscribe(0, 2, 15);
        rows("leaf(15", new int[] {2, 3, 2, 3}, what -> x.leaf(15, what));
    }

    private static void wholeValues() {
        Due.topic("promise 14, whole");
        CellEvents x = story();
        x.type('g');
        x.type('o');
        rows("whole", new int[] {3, 2, 5, 3, 1, 1, 3, 8, 4, 6, 0, 2, 1, 2}, what -> x.whole(what));
        for (int k = 0; k < 12; k++) {
            x.publish(15, 2, 0);
        }
        rows("whole", new int[] {3, 2, 17, 3, 1, 1, 3, 8, 14, 6, 2, 2, 1, 2}, what -> x.whole(what));
        x.leave(2);
        x.leave(0);
        rows("whole", new int[] {3, 0, 17, 3, 1, 1, 3, 8, 0, 6, 2, 16, 1, 2}, what -> x.whole(what));
    }

    private static void readingChangesNothing() {
        Due.topic("promises 9 to 20, reading");
        CellEvents x = story();
        x.move(0, 15);
        long before = x.digest();
        for (int s = 0; s < 3; s++) {
            for (int what = 0; what < 12; what++) {
                x.subscriber(s, what);
            }
            x.stay(s, 0, 0);
            x.waiting(s, 0);
            x.servedIn(s);
            x.emptyIn(s);
            x.covered(s);
            x.reason(s, 3, 0);
        }
        x.event(0, 6);
        x.leaf(0, 0);
        x.whole(12);
        x.wouldReach(15, 0, 3);
        x.busiest();
        Due.same("digest()", x.digest(), before);
    }

    private static void refusedIndices() {
        Due.topic("promises 9 to 19, no such index");
        CellEvents x = story();
        for (int bad : new int[] {-1, 3, 7, 8, LOW, HIGH}) {
            Due.noIndex("subscriber(" + bad, x, () -> x.subscriber(bad, 0));
            Due.noIndex("subscriber(" + bad + ", 12", x, () -> x.subscriber(bad, 12));
            Due.noIndex("stay(" + bad, x, () -> x.stay(bad, 0, 0));
            Due.noIndex("stay(" + bad + ", -1", x, () -> x.stay(bad, -1, 3));
            Due.noIndex("waiting(" + bad, x, () -> x.waiting(bad, 0));
            Due.noIndex("waiting(" + bad + ", -1", x, () -> x.waiting(bad, -1));
            Due.noIndex("servedIn(" + bad, x, () -> x.servedIn(bad));
            Due.noIndex("emptyIn(" + bad, x, () -> x.emptyIn(bad));
            Due.noIndex("covered(" + bad, x, () -> x.covered(bad));
            Due.noIndex("reason(" + bad, x, () -> x.reason(bad, 0, 0));
            Due.noIndex("reason(" + bad + ", 0, 3", x, () -> x.reason(bad, 0, 3));
        }
        CellEvents y = story();
        for (int bad : new int[] {-1, 16, LOW, HIGH}) {
            Due.noIndex("leaf(" + bad, y, () -> y.leaf(bad, 0));
            Due.noIndex("leaf(" + bad + ", 4", y, () -> y.leaf(bad, 4));
            Due.noIndex("wouldReach(" + bad, y, () -> y.wouldReach(bad, 0, 0));
            Due.noIndex("wouldReach(" + bad + ", 3", y, () -> y.wouldReach(bad, 3, -1));
            Due.noIndex("reason(0, " + bad, y, () -> y.reason(0, bad, 0));
            Due.noIndex("reason(0, " + bad + ", 3", y, () -> y.reason(0, bad, 3));
            Due.noIndex("reason(1, " + bad + "), gone", y, () -> y.reason(1, bad, 0));
        }
        for (int bad : new int[] {-1, 5, 59, 60, LOW, HIGH}) {
            Due.noIndex("event(" + bad, y, () -> y.event(bad, 0));
            Due.noIndex("event(" + bad + ", 7", y, () -> y.event(bad, 7));
        }
    }

    private static void refusedArguments() {
        Due.topic("promises 9 to 16, bad arguments");
        CellEvents x = story();
        for (int bad : new int[] {-1, LOW}) {
            Due.badArgument("stay(0, " + bad, x, () -> x.stay(0, bad, 0));
            Due.badArgument("waiting(0, " + bad, x, () -> x.waiting(0, bad));
            Due.badArgument("wouldReach(0, 0, " + bad, x, () -> x.wouldReach(0, 0, bad));
        }
        for (int bad : new int[] {-1, 3, LOW, HIGH}) {
            Due.badArgument("stay(0, 0, " + bad, x, () -> x.stay(0, 0, bad));
            Due.badArgument("stay(0, 99, " + bad, x, () -> x.stay(0, 99, bad));
            Due.badArgument("wouldReach(0, " + bad, x, () -> x.wouldReach(0, bad, 0));
            Due.badArgument("wouldReach(0, " + bad + ", 99", x, () -> x.wouldReach(0, bad, 99));
            Due.badArgument("reason(0, 0, " + bad, x, () -> x.reason(0, 0, bad));
            Due.badArgument("reason(1, 0, " + bad + "), gone", x, () -> x.reason(1, 0, bad));
        }
        Due.badArgument("subscriber(0, 12)", x, () -> x.subscriber(0, 12));
        Due.badArgument("event(0, 7)", x, () -> x.event(0, 7));
        Due.badArgument("leaf(0, 4)", x, () -> x.leaf(0, 4));
        Due.badArgument("whole(14)", x, () -> x.whole(14));
        for (int bad : new int[] {-1, 99, LOW, HIGH}) {
            Due.badArgument("subscriber(0, " + bad, x, () -> x.subscriber(0, bad));
            Due.badArgument("event(0, " + bad, x, () -> x.event(0, bad));
            Due.badArgument("leaf(0, " + bad, x, () -> x.leaf(0, bad));
            Due.badArgument("whole(" + bad, x, () -> x.whole(bad));
        }
    }
}
