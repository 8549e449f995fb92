/** Promises 7 and 8: publish and pass. */
final class EventsAndTicksTest {
    private static final int LOW = Integer.MIN_VALUE;
    private static final int HIGH = Integer.MAX_VALUE;

    private EventsAndTicksTest() {
    }

    static void run() {
        publishOrdinary();
        areas();
        lateOnes();
        lateOnesByStays();
        stayThatIsEmpty();
        forgottenStays();
        fullInbox();
        publishRefused();
        sixtyEvents();
        passOrdinary();
        capacityIsShared();
        capacityIsOfTheServingLeaf();
        dwellOfWalkerAndCar();
        dwellZero();
        dwellSetWhileMoving();
        handoverWaits();
        handoverOfAnEmptyInbox();
        handoverSetToZero();
        handoverAgain();
        changeBeforeDelivery();
        passRefused();
        lastTick();
    }

    private static void publishOrdinary() {
        Due.topic("promise 7, publish");
        CellEvents x = new CellEvents();
        x.subscribe(0, 2, 5);
        x.subscribe(1, 1, 4);
        x.subscribe(2, 0, 15);
        x.pass(3);
        Due.same("publish", x.publish(5, 2, 0), 0);
        Due.same("publish", x.publish(0, 2, 0), 1);
        Due.same("publish", x.publish(15, 1, 3), 2);
        Due.same("publish", x.publish(15, 0, 1), 3);
        Due.same("routed", x.event(0, 4), 7);
        Due.same("routed", x.event(1, 4), 6);
        Due.same("routed", x.event(2, 4), 4);
        Due.same("routed", x.event(3, 4), 7);
        Due.same("time", x.event(2, 2), 0);
        Due.same("time", x.event(3, 2), 2);
        Due.same("published", x.event(3, 3), 3);
        int[][] inboxes = {{0, 3}, {0, 1, 3}, {0, 1, 2, 3}};
        for (int s = 0; s < 3; s++) {
            Due.same("waiting", x.subscriber(s, 6), inboxes[s].length);
            Due.same("routed", x.subscriber(s, 7), inboxes[s].length);
            for (int k = 0; k < inboxes[s].length; k++) {
                Due.same("waiting(" + s + ", " + k + ")", x.waiting(s, k), inboxes[s][k]);
            }
        }
        Due.same("whole(2)", x.whole(2), 4);
        Due.same("whole(8)", x.whole(8), 9);
        Due.same("undo()", x.undo(), 3);
        Due.same("whole(2)", x.whole(2), 3);
        Due.same("waiting", x.waiting(0, 1), -1);
        Due.same("publish again", x.publish(1, 2, 0), 3);
    }

    /** Each pair of areas, told by columns and rows. */
    private static void areas() {
        for (int level = 0; level < 3; level++) {
            for (int eventLevel = 0; eventLevel < 3; eventLevel++) {
                for (int leaf = 0; leaf < 16; leaf++) {
                    CellEvents x = new CellEvents();
                    x.subscribe(2, level, leaf);
                    for (int at = 0; at < 16; at++) {
                        int coarse = Math.min(level, eventLevel);
                        boolean sameQuad = at % 4 / 2 == leaf % 4 / 2 && at / 8 == leaf / 8;
                        boolean overlap = coarse == 0 || (coarse == 1 ? sameQuad : at == leaf);
                        String what = "levels " + level + " " + eventLevel + ", leaves " + leaf + " " + at;
                        Due.same(what, x.wouldReach(at, eventLevel, 0), overlap ? 1 : 0);
                        x.publish(at, eventLevel, 0);
                        Due.same(what, x.event(at, 4), overlap ? 1 : 0);
                    }
                }
            }
        }
    }

    private static void lateOnes() {
        CellEvents x = new CellEvents();
        x.subscribe(0, 2, 5);
        Due.badState("before tick 0", x, () -> x.publish(5, 2, 1));
        x.pass(8);
        Due.same("as late as it can be", x.publish(5, 2, 8), 0);
        Due.same("its time", x.event(0, 2), 0);
        Due.same("routed", x.event(0, 4), 1);
        x.set(3, 9);
        Due.badState("before tick 0", x, () -> x.publish(5, 2, 9));
        x.pass(1);
        Due.same("as late as it can be", x.publish(5, 2, 9), 1);
        Due.badState("later", x, () -> x.publish(5, 2, 10));
        x.set(3, 0);
        Due.badState("late", x, () -> x.publish(5, 2, 1));
        Due.same("not late", x.publish(5, 2, 0), 2);
        x.set(3, 20);
        x.pass(20);
        Due.same("as late as it can be", x.publish(5, 2, 20), 3);
        Due.badState("later", x, () -> x.publish(5, 2, 21));
        Due.badState("far later", x, () -> x.publish(5, 2, HIGH));
    }

    private static void lateOnesByStays() {
        CellEvents x = new CellEvents();
        x.pass(2);
        x.subscribe(0, 2, 5);
        x.subscribe(0, 2, 5);
        x.set(0, 0);
        x.pass(2);
        // At tick 4 leaf 6 serves subscriber 0 from then on; subscriber 1 is gone at tick 6.
        x.move(0, 6);
        x.pass(2);
        x.leave(1);
        x.pass(1);
        int[] due5 = {0, 0, 1, 1, 0, 0, 0, 0};
        int[] due6 = {0, 0, 0, 0, 1, 1, 1, 1};
        for (int time = 0; time <= 7; time++) {
            int late = 7 - time;
            Due.same("leaf 5 at " + time, x.wouldReach(5, 2, late), due5[time]);
            Due.same("leaf 6 at " + time, x.wouldReach(6, 2, late), due6[time]);
            int event = x.publish(5, 2, late);
            Due.same("routed", x.event(event, 4), due5[time]);
            event = x.publish(6, 2, late);
            Due.same("routed", x.event(event, 4), due6[time]);
        }
        Due.same("stay end", x.stay(0, 1, 2), 4);
        Due.same("stay first tick", x.stay(0, 0, 1), 4);
    }

    private static void stayThatIsEmpty() {
        CellEvents x = new CellEvents();
        x.set(0, 0);
        x.subscribe(0, 2, 5);
        x.move(0, 6);
        x.pass(1);
        Due.same("stay leaf", x.stay(0, 1, 0), 5);
        Due.same("stay first tick", x.stay(0, 1, 1), 0);
        Due.same("stay end", x.stay(0, 1, 2), 0);
        Due.same("stay first tick", x.stay(0, 0, 1), 0);
        Due.same("leaf 5 at 0", x.wouldReach(5, 2, 1), 0);
        Due.same("leaf 6 at 0", x.wouldReach(6, 2, 1), 1);
    }

    private static void forgottenStays() {
        CellEvents x = new CellEvents();
        x.set(0, 0);
        x.set(3, 20);
        x.subscribe(0, 2, 0);
        for (int k = 1; k <= 9; k++) {
            x.pass(1);
            x.move(0, k);
        }
        x.pass(1);
        // Ten stays: leaf k from tick k on, but leaf 0 from 0.
        for (int k = 0; k <= 9; k++) {
            Due.same("stay leaf", x.stay(0, 9 - k, 0), k);
            Due.same("stay first tick", x.stay(0, 9 - k, 1), k);
            Due.same("stay end", x.stay(0, 9 - k, 2), k == 9 ? -1 : k + 1);
        }
        Due.same("the first one is remembered", x.wouldReach(0, 2, 10), 1);
        x.move(0, 10);
        x.pass(1);
        Due.same("latest", x.stay(0, 0, 0), 10);
        Due.same("oldest", x.stay(0, 9, 0), 1);
        Due.same("no more", x.stay(0, 10, 0), -1);
        Due.same("the first one is forgotten", x.wouldReach(0, 2, 11), 0);
        Due.same("the second one is not", x.wouldReach(1, 2, 10), 1);
        Due.same("publish", x.publish(0, 0, 11), 0);
        Due.same("nobody", x.event(0, 4), 0);
        Due.same("handovers", x.subscriber(0, 10), 10);
        Due.same("in all", x.whole(12), 10);
    }

    private static void fullInbox() {
        CellEvents x = new CellEvents();
        x.subscribe(0, 2, 3);
        for (int k = 0; k < 12; k++) {
            x.publish(3, 2, 0);
        }
        Due.same("waiting", x.subscriber(0, 6), 12);
        Due.same("dropped", x.subscriber(0, 9), 0);
        x.subscribe(0, 2, 3);
        Due.same("publish", x.publish(3, 2, 0), 12);
        Due.same("waiting", x.subscriber(0, 6), 12);
        Due.same("routed", x.subscriber(0, 7), 13);
        Due.same("dropped", x.subscriber(0, 9), 1);
        Due.same("routed", x.event(12, 4), 3);
        Due.same("in inboxes", x.event(12, 6), 1);
        Due.same("dropped in all", x.whole(10), 1);
        Due.same("waiting in all", x.whole(8), 13);
        Due.same("oldest", x.waiting(0, 0), 0);
        Due.same("latest", x.waiting(0, 11), 11);
        x.pass(1);
        Due.same("room for one more", x.publish(3, 2, 0), 13);
        Due.same("latest", x.waiting(0, 10), 13);
        x.pass(50);
        Due.same("delivered", x.event(12, 5), 2);
        Due.same("delivered", x.subscriber(0, 8), 13);
        Due.same("delivered", x.event(13, 5), 3);
    }

    private static void publishRefused() {
        CellEvents x = new CellEvents();
        x.subscribe(0, 0, 0);
        for (int bad : new int[] {-1, 16, LOW, HIGH}) {
            Due.noIndex("leaf " + bad, x, () -> x.publish(bad, 0, 0));
            Due.noIndex("leaf " + bad + " and all else", x, () -> x.publish(bad, 3, -1));
            Due.noIndex("leaf " + bad + " and late", x, () -> x.publish(bad, 0, 30));
        }
        for (int bad : new int[] {-1, 3, LOW, HIGH}) {
            Due.badArgument("level " + bad, x, () -> x.publish(0, bad, 0));
            Due.badArgument("level " + bad + " and late", x, () -> x.publish(0, bad, 30));
        }
        for (int bad : new int[] {-1, -2, LOW}) {
            Due.badArgument("late " + bad, x, () -> x.publish(0, 0, bad));
        }
        Due.same("whole(2)", x.whole(2), 0);
    }

    private static void sixtyEvents() {
        CellEvents x = new CellEvents();
        x.subscribe(0, 0, 0);
        for (int e = 0; e < 60; e++) {
            Due.same("publish", x.publish(e % 16, e % 3, 0), e);
        }
        Due.badState("one more", x, () -> x.publish(0, 0, 0));
        Due.noIndex("one more, no leaf", x, () -> x.publish(16, 0, 0));
        Due.badArgument("one more, no level", x, () -> x.publish(0, 3, 0));
        Due.badArgument("one more, late -1", x, () -> x.publish(0, 0, -1));
        Due.same("whole(2)", x.whole(2), 60);
        Due.same("the last one", x.event(59, 0), 59 % 16);
        Due.same("undo()", x.undo(), 3);
        Due.same("publish", x.publish(4, 2, 0), 59);
        Due.same("the last one", x.event(59, 0), 4);
    }

    private static void passOrdinary() {
        Due.topic("promise 8, pass");
        CellEvents x = new CellEvents();
        Due.same("pass(1)", x.pass(1), 0);
        Due.same("whole(3)", x.whole(3), 1);
        Due.same("pass(50)", x.pass(50), 0);
        Due.same("whole(3)", x.whole(3), 51);
        x.subscribe(0, 2, 4);
        for (int k = 0; k < 5; k++) {
            x.publish(4, 2, 0);
        }
        Due.same("pass(1)", x.pass(1), 2);
        Due.same("waiting", x.waiting(0, 0), 2);
        Due.same("delivered", x.event(1, 5), 1);
        Due.same("not delivered", x.event(2, 5), 0);
        Due.same("pass(2)", x.pass(2), 3);
        Due.same("whole(9)", x.whole(9), 5);
        Due.same("leaf(4, 1)", x.leaf(4, 1), 5);
        Due.same("delivered", x.subscriber(0, 8), 5);
        Due.same("undo()", x.undo(), 3);
        Due.same("whole(3)", x.whole(3), 52);
        Due.same("whole(9)", x.whole(9), 2);
        Due.same("leaf(4, 1)", x.leaf(4, 1), 2);
        Due.same("not delivered", x.event(2, 5), 0);
    }

    private static void capacityIsShared() {
        CellEvents x = new CellEvents();
        x.set(1, 3);
        x.subscribe(0, 2, 4);
        x.subscribe(1, 2, 4);
        x.subscribe(2, 2, 4);
        x.publish(4, 2, 0);
        x.publish(4, 2, 0);
        // Three a tick: both of subscriber 0 and one of 1, then one of 1 and both of 2.
        Due.same("pass(1)", x.pass(1), 3);
        Due.same("delivered", x.event(0, 5), 3);
        Due.same("delivered", x.event(1, 5), 1);
        Due.same("waiting", x.waiting(1, 0), 1);
        Due.same("waiting", x.waiting(2, 0), 0);
        Due.same("pass(1)", x.pass(1), 3);
        Due.same("delivered", x.event(0, 5), 7);
        Due.same("delivered", x.event(1, 5), 7);
        Due.same("leaf(4, 1)", x.leaf(4, 1), 6);
        x.set(1, 1);
        x.publish(4, 2, 0);
        Due.same("pass(1)", x.pass(1), 1);
        Due.same("the lowest number first", x.event(2, 5), 1);
        Due.same("pass(1)", x.pass(1), 1);
        Due.same("then the next", x.event(2, 5), 3);
        x.leave(2);
        Due.same("pass(1)", x.pass(1), 0);
    }

    private static void capacityIsOfTheServingLeaf() {
        CellEvents x = new CellEvents();
        x.set(1, 1);
        x.subscribe(0, 0, 4);
        x.subscribe(1, 0, 5);
        x.subscribe(2, 0, 5);
        x.publish(15, 2, 0);
        // The event lies in leaf 15; the leaves that serve are 4 and 5, one each a tick.
        Due.same("pass(1)", x.pass(1), 2);
        Due.same("delivered", x.event(0, 5), 3);
        Due.same("leaf(4, 1)", x.leaf(4, 1), 1);
        Due.same("leaf(5, 1)", x.leaf(5, 1), 1);
        Due.same("leaf(15, 1)", x.leaf(15, 1), 0);
        x.move(0, 5);
        x.publish(15, 2, 0);
        // Subscriber 0 is still served by leaf 4 while it dwells.
        Due.same("pass(1)", x.pass(1), 2);
        Due.same("leaf(4, 1)", x.leaf(4, 1), 2);
        Due.same("leaf(5, 1)", x.leaf(5, 1), 2);
    }

    private static void dwellOfWalkerAndCar() {
        for (int dwell = 0; dwell <= 9; dwell++) {
            CellEvents x = new CellEvents();
            x.set(0, dwell);
            x.subscribe(0, 2, 0);
            x.subscribe(1, 2, 0);
            x.pass(3);
            x.move(0, 1);
            x.move(1, 1);
            Due.same("servedIn walker", x.servedIn(0), dwell + 1);
            Due.same("servedIn car", x.servedIn(1), dwell / 2 + 1);
            for (int passed = 1; passed <= 11; passed++) {
                x.pass(1);
                Due.same("walker after " + passed, x.subscriber(0, 4), passed > dwell ? 1 : 0);
                Due.same("car after " + passed, x.subscriber(1, 4), passed > dwell / 2 ? 1 : 0);
            }
            Due.same("first tick, walker", x.stay(0, 0, 1), 3 + dwell);
            Due.same("first tick, car", x.stay(1, 0, 1), 3 + dwell / 2);
            Due.same("end, walker", x.stay(0, 1, 2), 3 + dwell);
            Due.same("handovers", x.subscriber(0, 10), 1);
            Due.same("in all", x.whole(12), 2);
            Due.same("came", x.subscriber(0, 3), 3);
        }
    }

    private static void dwellZero() {
        CellEvents x = new CellEvents();
        x.set(0, 1);
        x.subscribe(0, 2, 0);
        x.subscribe(1, 2, 0);
        x.move(0, 1);
        x.move(1, 1);
        x.pass(1);
        Due.same("walker", x.subscriber(0, 4), 0);
        Due.same("car, half of 1 is 0", x.subscriber(1, 4), 1);
        x.pass(1);
        Due.same("walker", x.subscriber(0, 4), 1);
    }

    private static void dwellSetWhileMoving() {
        CellEvents x = new CellEvents();
        x.set(0, 9);
        x.subscribe(0, 2, 0);
        x.move(0, 1);
        x.pass(5);
        Due.same("servedIn", x.servedIn(0), 5);
        x.set(0, 2);
        Due.same("servedIn, due already", x.servedIn(0), 1);
        x.pass(1);
        Due.same("serving leaf", x.subscriber(0, 4), 1);
        Due.same("first tick", x.stay(0, 0, 1), 5);
    }

    private static void handoverWaits() {
        CellEvents x = new CellEvents();
        x.set(0, 0);
        x.set(2, 2);
        x.set(1, 1);
        x.subscribe(0, 2, 0);
        x.pass(4);
        for (int k = 0; k < 3; k++) {
            x.publish(0, 2, 0);
        }
        x.move(0, 1);
        // The leaf changes in tick 4; it is in handover in the ticks 4 and 5.
        Due.same("pass(1)", x.pass(1), 0);
        Due.same("up to", x.subscriber(0, 11), 6);
        Due.same("handovers", x.subscriber(0, 10), 1);
        Due.same("waiting", x.subscriber(0, 6), 3);
        Due.same("an event meanwhile", x.publish(1, 2, 0), 3);
        Due.same("waiting", x.waiting(0, 3), 3);
        Due.same("pass(1)", x.pass(1), 0);
        Due.same("pass(1)", x.pass(1), 1);
        Due.same("leaf(0, 1)", x.leaf(0, 1), 0);
        Due.same("leaf(1, 1)", x.leaf(1, 1), 1);
        Due.same("the oldest one", x.event(0, 5), 1);
        Due.same("pass(3)", x.pass(3), 3);
        Due.same("up to", x.subscriber(0, 11), 6);
    }

    private static void handoverOfAnEmptyInbox() {
        CellEvents x = new CellEvents();
        x.set(0, 0);
        x.set(2, 9);
        x.subscribe(0, 2, 0);
        x.subscribe(0, 2, 0);
        x.pass(2);
        x.move(0, 1);
        x.publish(0, 2, 0);
        x.pass(1);
        Due.same("up to", x.subscriber(0, 11), 11);
        x.move(1, 1);
        x.pass(1);
        Due.same("none waited", x.subscriber(1, 11), 0);
        Due.same("but it was handed over", x.subscriber(1, 10), 1);
        x.publish(1, 2, 0);
        Due.same("no handover of 1, though of 0", x.pass(1), 1);
        Due.same("delivered", x.event(1, 5), 2);
        Due.same("pass(5)", x.pass(5), 0);
        Due.same("whole(3)", x.whole(3), 10);
        Due.same("tick 10 is still in it", x.pass(1), 0);
        Due.same("tick 11 is not", x.pass(1), 2);
    }

    private static void handoverSetToZero() {
        CellEvents x = new CellEvents();
        x.set(0, 0);
        x.set(2, 0);
        x.subscribe(0, 2, 0);
        x.pass(7);
        x.publish(0, 2, 0);
        x.move(0, 1);
        Due.same("pass(1)", x.pass(1), 1);
        Due.same("up to", x.subscriber(0, 11), 7);
        Due.same("leaf(1, 1)", x.leaf(1, 1), 1);
    }

    private static void handoverAgain() {
        CellEvents x = new CellEvents();
        x.set(0, 0);
        x.set(2, 9);
        x.subscribe(0, 2, 0);
        x.publish(0, 2, 0);
        x.move(0, 1);
        x.pass(1);
        Due.same("up to", x.subscriber(0, 11), 9);
        x.set(2, 1);
        Due.same("the setting changes what is to come alone", x.subscriber(0, 11), 9);
        x.move(0, 2);
        x.pass(1);
        Due.same("up to, from the latest change", x.subscriber(0, 11), 2);
        Due.same("pass(1)", x.pass(1), 1);
        Due.same("handovers", x.subscriber(0, 10), 2);
        x.set(2, 9);
        x.move(0, 3);
        x.pass(1);
        Due.same("up to stays, as none wait", x.subscriber(0, 11), 2);
    }

    /** All leaves change before the first delivery of the tick. */
    private static void changeBeforeDelivery() {
        CellEvents x = new CellEvents();
        x.set(0, 0);
        x.set(1, 1);
        x.set(2, 0);
        x.subscribe(0, 0, 0);
        x.subscribe(0, 0, 1);
        x.publish(0, 0, 0);
        x.move(1, 0);
        Due.same("pass(1)", x.pass(1), 1);
        Due.same("both were in leaf 0", x.event(0, 5), 1);
        Due.same("leaf(0, 1)", x.leaf(0, 1), 1);
        Due.same("pass(1)", x.pass(1), 1);
        Due.same("leaf(0, 1)", x.leaf(0, 1), 2);
        Due.same("leaf(1, 1)", x.leaf(1, 1), 0);
    }

    private static void passRefused() {
        CellEvents x = new CellEvents();
        x.subscribe(0, 2, 0);
        x.publish(0, 2, 0);
        for (int bad : new int[] {0, -1, 51, LOW, HIGH}) {
            Due.badArgument("pass(" + bad + ")", x, () -> x.pass(bad));
        }
        Due.same("whole(3)", x.whole(3), 0);
    }

    private static void lastTick() {
        CellEvents x = new CellEvents();
        x.subscribe(0, 2, 0);
        for (int k = 0; k < 199; k++) {
            x.pass(50);
        }
        Due.same("whole(3)", x.whole(3), 9950);
        Due.badState("pass(50)", x, () -> x.pass(50));
        Due.badArgument("pass(51)", x, () -> x.pass(51));
        Due.same("pass(48)", x.pass(48), 0);
        x.publish(0, 2, 0);
        x.move(0, 1);
        Due.badState("pass(2)", x, () -> x.pass(2));
        Due.same("servedIn goes beyond it", x.servedIn(0), 4);
        Due.same("pass(1)", x.pass(1), 1);
        Due.same("whole(3)", x.whole(3), 9999);
        Due.badState("pass(1)", x, () -> x.pass(1));
        Due.badArgument("pass(0)", x, () -> x.pass(0));
        Due.same("publish", x.publish(0, 2, 8), 1);
        Due.same("its time", x.event(1, 2), 9991);
        Due.same("emptyIn goes beyond it", x.emptyIn(0), 1);
        x.set(2, 9);
        x.set(0, 0);
        Due.same("servedIn goes beyond it", x.servedIn(0), 1);
        Due.same("emptyIn goes beyond it, with a handover", x.emptyIn(0), 10);
        Due.same("whole(3)", x.whole(3), 9999);
    }
}
