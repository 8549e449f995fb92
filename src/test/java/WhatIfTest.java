/** Promises 15 to 20: wouldReach, reason, servedIn, emptyIn, covered, busiest. */
final class WhatIfTest {
    private WhatIfTest() {
    }

    static void run() {
        wouldReach();
        wouldReachTooLate();
        wouldReachBeyondLimits();
        reason();
        servedIn();
        emptyInAlone();
        emptyInShared();
        emptyInHandover();
        emptyInWhileMoving();
        emptyInIsWhatPassingTells();
        covered();
        busiest();
        busiestOfServingLeaves();
    }

    private static void wouldReach() {
        Due.topic("promise 15, wouldReach");
        CellEvents x = new CellEvents();
        for (int s = 0; s < 8; s++) {
            x.subscribe(2, s % 3, s);
        }
        // Level 0: 0, 3, 6; level 1: 1, 4 (quad of 0), 7 (quad of 2); level 2: 2, 5.
        Due.same("leaf 0", x.wouldReach(0, 2, 0), 0b01011011);
        Due.same("leaf 5", x.wouldReach(5, 2, 0), 0b01111011);
        Due.same("leaf 2", x.wouldReach(2, 2, 0), 0b11001101);
        Due.same("quad of 2", x.wouldReach(7, 1, 0), 0b11001101);
        Due.same("leaf 15", x.wouldReach(15, 2, 0), 0b01001001);
        Due.same("quad of 15", x.wouldReach(15, 1, 0), 0b01001001);
        Due.same("all", x.wouldReach(15, 0, 0), 0b11111111);
        x.leave(6);
        x.leave(7);
        Due.same("all that are there", x.wouldReach(15, 0, 0), 0b00111111);
        Due.same("no events", x.whole(2), 0);
        Due.same("none wait", x.whole(8), 0);
    }

    private static void wouldReachTooLate() {
        CellEvents x = new CellEvents();
        x.subscribe(0, 0, 0);
        Due.same("below tick 0", x.wouldReach(0, 0, 1), -1);
        x.pass(8);
        Due.same("8 late at tick 8", x.wouldReach(0, 0, 8), 1);
        Due.same("9 late at tick 8", x.wouldReach(0, 0, 9), -1);
        x.pass(1);
        Due.same("9 late, lateness 8", x.wouldReach(0, 0, 9), -1);
        x.set(3, 9);
        Due.same("9 late, lateness 9", x.wouldReach(0, 0, 9), 1);
        x.set(3, 20);
        Due.same("10 late at tick 9", x.wouldReach(0, 0, 10), -1);
        Due.same("very late", x.wouldReach(0, 0, Integer.MAX_VALUE), -1);
        x.set(3, 0);
        Due.same("not late", x.wouldReach(0, 0, 0), 1);
        Due.same("late, lateness 0", x.wouldReach(0, 0, 1), -1);
    }

    private static void wouldReachBeyondLimits() {
        CellEvents x = new CellEvents();
        x.subscribe(0, 2, 1);
        for (int e = 0; e < 60; e++) {
            x.publish(1, 2, 0);
        }
        Due.same("inbox is full", x.subscriber(0, 9), 48);
        Due.same("no event is left, and the inbox is full", x.wouldReach(1, 2, 0), 1);
        Due.same("no event is left, too late", x.wouldReach(1, 2, 1), -1);
    }

    private static void reason() {
        Due.topic("promise 16, reason");
        CellEvents x = new CellEvents();
        x.subscribe(0, 2, 5);
        x.subscribe(0, 1, 5);
        x.subscribe(0, 0, 5);
        x.pass(1);
        Due.same("it would get it", x.reason(0, 5, 2), 0);
        Due.same("quad of 5", x.reason(0, 0, 1), 0);
        Due.same("all", x.reason(0, 15, 0), 0);
        Due.same("no overlap", x.reason(0, 6, 2), 3);
        Due.same("no overlap", x.reason(0, 6, 1), 3);
        Due.same("its quad", x.reason(1, 0, 2), 0);
        Due.same("another quad", x.reason(1, 6, 2), 3);
        Due.same("all leaves", x.reason(2, 15, 2), 0);
        x.move(0, 6);
        x.move(1, 6);
        x.move(2, 6);
        Due.same("still leaf 5", x.reason(0, 5, 2), 0);
        Due.same("its position would", x.reason(0, 6, 2), 2);
        Due.same("its position would", x.reason(0, 3, 1), 2);
        Due.same("nor its position", x.reason(0, 9, 2), 3);
        Due.same("its position would", x.reason(1, 3, 2), 2);
        Due.same("nor its position", x.reason(1, 9, 2), 3);
        Due.same("all leaves", x.reason(2, 9, 2), 0);
        for (int k = 0; k < 12; k++) {
            Due.same("before it is full", x.reason(0, 5, 2), 0);
            x.publish(5, 2, 0);
        }
        Due.same("full", x.reason(0, 5, 2), 4);
        Due.same("full", x.reason(1, 1, 2), 4);
        Due.same("full, but first: its position would", x.reason(0, 6, 2), 2);
        Due.same("full, but first: no overlap", x.reason(0, 9, 2), 3);
        x.leave(0);
        Due.same("gone", x.reason(0, 5, 2), 1);
        Due.same("gone, its position would", x.reason(0, 6, 2), 1);
        Due.same("gone, no overlap", x.reason(0, 9, 2), 1);
        Due.same("full", x.reason(2, 9, 2), 4);
        x.pass(1);
        Due.same("not full", x.reason(1, 5, 2), 0);
    }

    private static void servedIn() {
        Due.topic("promise 17, servedIn");
        CellEvents x = new CellEvents();
        x.subscribe(0, 2, 5);
        x.subscribe(1, 2, 5);
        x.subscribe(2, 2, 5);
        x.pass(4);
        for (int s = 0; s < 3; s++) {
            Due.same("served already", x.servedIn(s), 0);
        }
        x.move(0, 6);
        x.move(1, 6);
        Due.same("walker", x.servedIn(0), 4);
        Due.same("car", x.servedIn(1), 2);
        x.pass(1);
        Due.same("walker", x.servedIn(0), 3);
        Due.same("car", x.servedIn(1), 1);
        x.pass(1);
        Due.same("walker", x.servedIn(0), 2);
        Due.same("car", x.servedIn(1), 0);
        x.set(0, 9);
        Due.same("by the setting of now", x.servedIn(0), 8);
        x.set(0, 0);
        Due.same("due for long", x.servedIn(0), 1);
        x.leave(0);
        x.leave(1);
        Due.same("gone while moving", x.servedIn(0), -1);
        Due.same("gone", x.servedIn(1), -1);
    }

    private static void emptyInAlone() {
        Due.topic("promise 18, emptyIn");
        CellEvents x = new CellEvents();
        x.subscribe(0, 2, 5);
        Due.same("empty already", x.emptyIn(0), 0);
        int[] due = {1, 1, 2, 2, 3, 3, 4, 4, 5, 5, 6, 6, 6};
        for (int k = 0; k < due.length; k++) {
            x.publish(5, 2, 0);
            Due.same("with " + (k + 1), x.emptyIn(0), due[k]);
        }
        x.set(1, 9);
        Due.same("capacity 9", x.emptyIn(0), 2);
        x.set(1, 1);
        Due.same("capacity 1", x.emptyIn(0), 12);
        x.leave(0);
        Due.same("gone", x.emptyIn(0), 0);
    }

    private static void emptyInShared() {
        CellEvents x = new CellEvents();
        x.set(1, 1);
        for (int s = 0; s < 8; s++) {
            x.subscribe(2, 0, 5);
        }
        for (int k = 0; k < 12; k++) {
            x.publish(5, 2, 0);
        }
        for (int s = 0; s < 8; s++) {
            Due.same("of " + s, x.emptyIn(s), 12 * (s + 1));
        }
        x.leave(3);
        Due.same("of 2", x.emptyIn(2), 36);
        Due.same("of 3", x.emptyIn(3), 0);
        Due.same("of 7", x.emptyIn(7), 84);
        Due.same("pass(50)", x.pass(50), 50);
        Due.same("of 7", x.emptyIn(7), 34);
    }

    private static void emptyInHandover() {
        CellEvents x = new CellEvents();
        x.set(0, 0);
        x.set(2, 9);
        x.subscribe(0, 2, 5);
        x.publish(5, 2, 0);
        x.move(0, 6);
        Due.same("change in tick 0, handover up to 9", x.emptyIn(0), 10);
        x.pass(1);
        Due.same("a tick later", x.emptyIn(0), 9);
        x.publish(6, 2, 0);
        x.publish(6, 2, 0);
        Due.same("three of them", x.emptyIn(0), 10);
        x.pass(8);
        Due.same("handover is over", x.emptyIn(0), 2);
    }

    private static void emptyInWhileMoving() {
        CellEvents x = new CellEvents();
        x.set(0, 2);
        x.set(1, 1);
        x.set(2, 5);
        x.subscribe(0, 0, 5);
        x.subscribe(0, 0, 5);
        for (int k = 0; k < 6; k++) {
            x.publish(5, 0, 0);
        }
        Due.same("of 0", x.emptyIn(0), 6);
        Due.same("of 1", x.emptyIn(1), 12);
        x.move(0, 6);
        // 0 gets two in the ticks 0 and 1, is in handover up to 7, and gets four in leaf 6 in 7 to 10.
        Due.same("of 0", x.emptyIn(0), 11);
        // 1 has leaf 5 for itself from tick 2 on.
        Due.same("of 1", x.emptyIn(1), 8);
        Due.same("nothing has changed", x.whole(3), 0);
        Due.same("nothing has changed", x.subscriber(0, 4), 5);
        Due.same("nothing has changed", x.leaf(5, 1), 0);
    }

    private static void emptyInIsWhatPassingTells() {
        for (int run = 0; run < 24; run++) {
            CellEvents x = new CellEvents();
            x.set(0, run % 5);
            x.set(1, 1 + run % 3);
            x.set(2, run % 4);
            for (int s = 0; s < 5; s++) {
                x.subscribe(s % 2, s % 3, 5 + s % 2);
            }
            for (int k = 0; k < 9; k++) {
                x.publish(5 + k % 2, k % 3, 0);
            }
            x.move(run % 5, 8 + run % 4 * 2);
            x.move((run + 1) % 5, 9);
            int[] told = new int[5];
            for (int s = 0; s < 5; s++) {
                told[s] = x.emptyIn(s);
            }
            for (int passed = 0; passed < 30; passed++) {
                for (int s = 0; s < 5; s++) {
                    String what = "run " + run + ", of " + s + " after " + passed;
                    Due.same(what, x.subscriber(s, 6) == 0 ? 1 : 0, told[s] <= passed ? 1 : 0);
                }
                x.pass(1);
            }
        }
    }

    private static void covered() {
        Due.topic("promise 19, covered");
        CellEvents x = new CellEvents();
        x.subscribe(0, 2, 0);
        int[] quads = {0x0033, 0x0033, 0x00CC, 0x00CC, 0x0033, 0x0033, 0x00CC, 0x00CC,
            0x3300, 0x3300, 0xCC00, 0xCC00, 0x3300, 0x3300, 0xCC00, 0xCC00};
        x.set(0, 0);
        for (int leaf = 0; leaf < 16; leaf++) {
            if (leaf > 0) {
                x.move(0, leaf);
                Due.same("before it serves", x.covered(0), 1 << leaf - 1);
                x.pass(1);
            }
            Due.same("level 2", x.covered(0), 1 << leaf);
            x.setLevel(0, 1);
            Due.same("level 1", x.covered(0), quads[leaf]);
            x.setLevel(0, 0);
            Due.same("level 0", x.covered(0), 0xFFFF);
            x.setLevel(0, 2);
        }
        for (int k = 0; k < 12; k++) {
            x.publish(15, 2, 0);
        }
        Due.same("with a full inbox", x.covered(0), 1 << 15);
        x.leave(0);
        Due.same("gone", x.covered(0), 0);
    }

    private static void busiest() {
        Due.topic("promise 20, busiest");
        CellEvents x = new CellEvents();
        x.subscribe(2, 2, 9);
        x.subscribe(2, 2, 3);
        x.subscribe(2, 2, 12);
        Due.same("none wait", x.busiest(), -1);
        x.publish(9, 2, 0);
        Due.same("one in 9", x.busiest(), 9);
        x.publish(12, 2, 0);
        Due.same("the lower one", x.busiest(), 9);
        x.publish(3, 2, 0);
        Due.same("the lowest one", x.busiest(), 3);
        x.publish(12, 2, 0);
        Due.same("two in 12", x.busiest(), 12);
        x.subscribe(2, 2, 3);
        x.publish(3, 2, 0);
        Due.same("three in 3, of two subscribers", x.busiest(), 3);
        x.leave(1);
        Due.same("one in 3", x.busiest(), 12);
        x.leave(2);
        Due.same("one in 3 and one in 9", x.busiest(), 3);
        x.pass(1);
        Due.same("none wait", x.busiest(), -1);
        CellEvents y = new CellEvents();
        y.subscribe(0, 0, 0);
        y.publish(15, 2, 0);
        Due.same("leaf 0", y.busiest(), 0);
        CellEvents z = new CellEvents();
        z.subscribe(0, 0, 15);
        z.publish(0, 2, 0);
        Due.same("leaf 15", z.busiest(), 15);
    }

    private static void busiestOfServingLeaves() {
        CellEvents x = new CellEvents();
        x.subscribe(0, 2, 4);
        x.publish(4, 2, 0);
        x.move(0, 1);
        Due.same("the serving leaf", x.busiest(), 4);
        x.set(0, 0);
        x.pass(1);
        Due.same("the new one", x.busiest(), 1);
        x.leave(0);
        Due.same("gone", x.busiest(), -1);
    }
}
