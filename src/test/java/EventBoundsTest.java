/** Each sentence that names a boundary case, of promises 7 and 8. */
final class EventBoundsTest {
    private EventBoundsTest() {
    }

    static void run() {
        areas();
        events();
        publishRefused();
        changesOfLeaves();
        handovers();
        deliveries();
        ticks();
    }

    // ---- promise 7

    private static void areas() {
        Bounds.promise(7, "leaf 4 * y + x lies in column x and row y of 4 columns and rows",
            EventBoundsTest::quadsOfNeighbours);
        Bounds.promise(7, "of level 2 the leaf alone", EventBoundsTest::leafAlone);
        Bounds.promise(7, "of level 1 the 4 leaves of its quad", EventBoundsTest::fourLeavesOfEachQuad);
        Bounds.promise(7, "of level 0 all leaves", EventBoundsTest::allLeaves);
        Bounds.promise(7, "Two areas overlap if they have a leaf in common.", EventBoundsTest::oneLeafIsEnough);
    }

    /** 1 if the event of this area reaches a subscriber of this level whom this leaf serves. */
    private static int reached(int level, int leaf, int eventLevel, int eventLeaf) {
        CellEvents x = Bounds.one(0, level, leaf);
        x.publish(eventLeaf, eventLevel, 0);
        return x.event(0, 4);
    }

    private static void quadsOfNeighbours() {
        Due.same("0 and 1, columns 0 and 1", reached(2, 0, 1, 1), 1);
        Due.same("1 and 2, columns 1 and 2", reached(2, 1, 1, 2), 0);
        Due.same("3 and 4, another row", reached(2, 3, 1, 4), 0);
        Due.same("0 and 4, rows 0 and 1", reached(2, 0, 1, 4), 1);
        Due.same("4 and 8, rows 1 and 2", reached(2, 4, 1, 8), 0);
        Due.same("7 and 8, another row", reached(2, 7, 1, 8), 0);
        Due.same("11 and 15, rows 2 and 3", reached(2, 11, 1, 15), 1);
        Due.same("0 and 15", reached(2, 0, 1, 15), 0);
    }

    private static void leafAlone() {
        for (int leaf = 0; leaf < 16; leaf++) {
            for (int at = 0; at < 16; at++) {
                Due.same(leaf + " and " + at, reached(2, leaf, 2, at), leaf == at ? 1 : 0);
            }
        }
    }

    private static void fourLeavesOfEachQuad() {
        int[][] quads = {{0, 1, 4, 5}, {2, 3, 6, 7}, {8, 9, 12, 13}, {10, 11, 14, 15}};
        for (int[] quad : quads) {
            for (int leaf : quad) {
                int due = 1 << quad[0] | 1 << quad[1] | 1 << quad[2] | 1 << quad[3];
                Due.same("covered from " + leaf, Bounds.one(0, 1, leaf).covered(0), due);
                for (int at = 0; at < 16; at++) {
                    Due.same(leaf + " and " + at, reached(1, leaf, 2, at), due >> at & 1);
                    Due.same(at + " and " + leaf, reached(2, at, 1, leaf), due >> at & 1);
                    Due.same("quads of " + leaf + " and " + at, reached(1, leaf, 1, at), due >> at & 1);
                }
            }
        }
    }

    private static void allLeaves() {
        for (int leaf = 0; leaf < 16; leaf++) {
            for (int level = 0; level < 3; level++) {
                Due.same("an event of all", reached(level, leaf, 0, 15 - leaf), 1);
                Due.same("a subscriber of all", reached(0, leaf, level, 15 - leaf), 1);
            }
        }
    }

    private static void oneLeafIsEnough() {
        Due.same("a quad and its last leaf", reached(1, 0, 2, 5), 1);
        Due.same("a leaf and its quad", reached(2, 10, 1, 15), 1);
        Due.same("a quad and the leaf beside it", reached(1, 0, 2, 6), 0);
        Due.same("a leaf and the quad beside it", reached(2, 9, 1, 10), 0);
    }

    private static void events() {
        Bounds.promise(7, "There are at most 60 events, numbered from 0.", EventBoundsTest::sixtyAtMost);
        Bounds.promise(7, "the tick at which it is published, minus how late it is", EventBoundsTest::timeOfAnEvent);
        Bounds.promise(7, "It is routed to each subscriber that is there", EventBoundsTest::toAllOrNobody);
        Bounds.promise(7, "the tick with which a stay ended is in the next one", EventBoundsTest::tickOfTheChange);
        Bounds.promise(7, "there is a remembered stay with the time of the event in it",
            EventBoundsTest::rememberedStaysAlone);
        Bounds.promise(7, "the leaf of that stay and the level of the subscriber", EventBoundsTest::notThePosition);
        Bounds.promise(7, "It comes to the end of its inbox", EventBoundsTest::toTheEndOfTheInbox);
        Bounds.promise(7, "if the inbox has 12 events, it is dropped instead", EventBoundsTest::thirteenth);
        Bounds.promise(7, "events that were routed to it and wait, at most 12, the oldest first",
            EventBoundsTest::twelveWait);
        Bounds.promise(7, "Returns the number of the event.", EventBoundsTest::numberOfAnEvent);
    }

    private static void sixtyAtMost() {
        CellEvents x = new CellEvents();
        for (int event = 0; event < 60; event++) {
            Due.same("publish", x.publish(event % 16, 2, 0), event);
        }
        Due.same("how many", x.whole(2), 60);
        Due.same("leaf of the last one", x.event(59, 0), 59 % 16);
    }

    private static void timeOfAnEvent() {
        CellEvents x = Bounds.at(8);
        x.publish(0, 2, 8);
        x.publish(0, 2, 0);
        Due.same("as late as the tick is", x.event(0, 2), 0);
        Due.same("not late", x.event(1, 2), 8);
        Due.same("published", x.event(0, 3), 8);
    }

    private static void toAllOrNobody() {
        CellEvents x = Bounds.eight();
        x.publish(0, 0, 0);
        Due.same("all eight", x.event(0, 4), 255);
        for (int number = 0; number < 8; number++) {
            x.leave(number);
        }
        x.publish(0, 0, 0);
        Due.same("all gone", x.event(1, 4), 0);
        CellEvents y = new CellEvents();
        y.publish(0, 0, 0);
        Due.same("nobody yet", y.event(0, 4), 0);
        y.subscribe(0, 0, 0);
        Due.same("it does not come later", y.event(0, 4), 0);
        y.pass(1);
        y.publish(0, 0, 1);
        Due.same("in the tick in which it came", y.event(1, 4), 1);
        y.leave(0);
        y.publish(0, 0, 1);
        Due.same("it was there then, but is gone", y.event(2, 4), 0);
    }

    private static void tickOfTheChange() {
        CellEvents x = Bounds.stays(2);
        // Leaf 0 served it in tick 0, leaf 1 from tick 1 on; it is tick 2.
        Due.same("end", x.stay(0, 1, 2), 1);
        Due.same("first tick", x.stay(0, 0, 1), 1);
        int[][] rows = {{0, 0, 0}, {1, 0, 1}, {0, 1, 0}, {1, 1, 1}, {0, 2, 1}, {1, 2, 0}};
        for (int[] row : rows) {
            int event = x.publish(row[0], 2, row[1]);
            Due.same("leaf " + row[0] + ", late " + row[1], x.event(event, 4), row[2]);
        }
        CellEvents y = Bounds.one(0, 2, 0);
        y.set(0, 0);
        y.move(0, 1);
        y.pass(1);
        Due.same("first tick of a stay of no tick", y.stay(0, 1, 1), 0);
        Due.same("end of a stay of no tick", y.stay(0, 1, 2), 0);
        Due.same("publish", y.publish(0, 2, 1), 0);
        Due.same("it has no time in it", y.event(0, 4), 0);
        Due.same("publish", y.publish(1, 2, 1), 1);
        Due.same("the next one has", y.event(1, 4), 1);
    }

    private static void rememberedStaysAlone() {
        CellEvents x = Bounds.stays(10);
        Due.same("publish", x.publish(0, 2, 10), 0);
        Due.same("the tenth stay", x.event(0, 4), 1);
        CellEvents y = Bounds.stays(11);
        Due.same("publish", y.publish(0, 0, 11), 0);
        Due.same("the eleventh stay", y.event(0, 4), 0);
        Due.same("publish", y.publish(1, 2, 10), 1);
        Due.same("the tenth stay", y.event(1, 4), 1);
        CellEvents z = Bounds.at(3);
        z.subscribe(0, 0, 0);
        Due.same("publish", z.publish(0, 0, 1), 0);
        Due.same("before the first stay", z.event(0, 4), 1);
    }

    private static void notThePosition() {
        CellEvents x = Bounds.one(0, 2, 5);
        x.move(0, 6);
        x.publish(6, 2, 0);
        Due.same("its position", x.event(0, 4), 0);
        x.publish(5, 2, 0);
        Due.same("its serving leaf", x.event(1, 4), 1);
    }

    private static void toTheEndOfTheInbox() {
        CellEvents x = Bounds.at(3);
        x.publish(0, 2, 0);
        x.publish(0, 2, 3);
        Due.same("the first one published", x.waiting(0, 0), 0);
        Due.same("the earlier one, published later", x.waiting(0, 1), 1);
        x.set(1, 1);
        x.pass(1);
        Due.same("delivered", x.event(0, 5), 1);
        Due.same("not yet", x.event(1, 5), 0);
    }

    private static void thirteenth() {
        CellEvents x = Bounds.waiting(12);
        Due.same("dropped", x.subscriber(0, 9), 0);
        Due.same("publish", x.publish(5, 2, 0), 12);
        Due.same("dropped", x.subscriber(0, 9), 1);
        Due.same("routed", x.subscriber(0, 7), 13);
        Due.same("routed to", x.event(12, 4), 1);
        Due.same("in its inbox", x.event(12, 6), 0);
        Due.same("the latest that waits", x.waiting(0, 11), 11);
        x.set(1, 1);
        x.pass(1);
        x.publish(5, 2, 0);
        Due.same("room for one", x.waiting(0, 11), 13);
        Due.same("dropped", x.subscriber(0, 9), 1);
        x.publish(5, 2, 0);
        Due.same("dropped", x.subscriber(0, 9), 2);
        x.pass(20);
        Due.same("it is never delivered", x.event(12, 5), 0);
        Due.same("delivered in all", x.whole(9), 13);
    }

    private static void twelveWait() {
        CellEvents x = Bounds.waiting(12);
        Due.same("how many", x.subscriber(0, 6), 12);
        for (int index = 0; index < 12; index++) {
            Due.same("waiting " + index, x.waiting(0, index), index);
        }
        CellEvents y = Bounds.waiting(60);
        Due.same("how many", y.subscriber(0, 6), 12);
        Due.same("dropped", y.subscriber(0, 9), 48);
    }

    private static void numberOfAnEvent() {
        CellEvents x = new CellEvents();
        Due.same("the first one", x.publish(0, 0, 0), 0);
        Due.same("the next one", x.publish(0, 0, 0), 1);
        x.undo();
        Due.same("again", x.publish(0, 0, 0), 1);
    }

    private static void publishRefused() {
        Bounds.promise(7, "`leaf`: 0 to 15", EventBoundsTest::eachLeaf);
        Bounds.promise(7, "`level`: 0 to 2", EventBoundsTest::eachLevel);
        Bounds.promise(7, "`late`: 0 or more: how many ticks ago it was", EventBoundsTest::notLate);
        Bounds.promise(7, "Throws `IndexOutOfBoundsException` if there is no such leaf", EventBoundsTest::inNoLeaf);
        Bounds.promise(7, "Throws `IllegalArgumentException` if level is out of range, or late is negative",
            EventBoundsTest::outOfRange);
        Bounds.promise(7, "Throws `IllegalStateException` if there are 60 events, late is greater than the lateness,"
            + " or its time would be below 0", EventBoundsTest::sixtyFirst);
        Bounds.promise(7, "It cannot be published if it is more late than the lateness", EventBoundsTest::tooLate);
        Bounds.promise(7, "or its time would be below 0", EventBoundsTest::beforeTheFirstTick);
        Bounds.promise(7, Bounds.FIRST_LISTED, EventBoundsTest::refusedForMore);
    }

    private static void eachLeaf() {
        for (int leaf = 0; leaf <= 15; leaf++) {
            CellEvents x = Bounds.one(0, 2, leaf);
            Due.same("publish", x.publish(leaf, 2, 0), 0);
            Due.same("leaf", x.event(0, 0), leaf);
            Due.same("routed to", x.event(0, 4), 1);
        }
    }

    private static void eachLevel() {
        for (int level = 0; level <= 2; level++) {
            CellEvents x = new CellEvents();
            Due.same("publish", x.publish(0, level, 0), 0);
            Due.same("level", x.event(0, 1), level);
        }
    }

    private static void notLate() {
        CellEvents x = Bounds.at(5);
        x.publish(0, 2, 0);
        x.publish(0, 2, 1);
        Due.same("late 0", x.event(0, 2), 5);
        Due.same("late 1", x.event(1, 2), 4);
    }

    private static void inNoLeaf() {
        for (int bad : Bounds.outside(0, 15)) {
            Bounds.noIndex("leaf " + bad, Bounds::busy, x -> x.publish(bad, 0, 0));
        }
    }

    private static void outOfRange() {
        for (int bad : Bounds.outside(0, 2)) {
            Bounds.badArgument("level " + bad, Bounds::busy, x -> x.publish(0, bad, 0));
        }
        for (int bad : new int[] {-1, -2, Bounds.LOW}) {
            Bounds.badArgument("late " + bad, Bounds::busy, x -> x.publish(0, 0, bad));
        }
    }

    private static void sixtyFirst() {
        Bounds.badState("a 61st one", Bounds::sixty, x -> x.publish(5, 2, 0));
        Bounds.badState("a 61st one for nobody", Bounds::sixty, x -> x.publish(0, 2, 0));
        CellEvents x = Bounds.sixty();
        x.undo();
        Due.same("the 60th one again", x.publish(0, 2, 0), 59);
    }

    private static CellEvents lateness(int value) {
        CellEvents x = Bounds.at(30);
        x.set(3, value);
        return x;
    }

    private static void tooLate() {
        for (int lateness : new int[] {0, 1, 8, 19, 20}) {
            Due.same("as late as " + lateness, lateness(lateness).publish(0, 2, lateness), 0);
            Bounds.badState("later than " + lateness, () -> lateness(lateness), x -> x.publish(0, 2, lateness + 1));
        }
        Bounds.badState("far later", () -> lateness(20), x -> x.publish(0, 2, Bounds.HIGH));
        Due.same("at first", Bounds.at(30).publish(0, 2, 8), 0);
        Bounds.badState("later than at first", () -> Bounds.at(30), x -> x.publish(0, 2, 9));
    }

    private static CellEvents early(int tick) {
        CellEvents x = Bounds.at(tick);
        x.set(3, 20);
        return x;
    }

    private static void beforeTheFirstTick() {
        for (int tick = 0; tick < 20; tick++) {
            int now = tick;
            Due.same("time 0", early(now).publish(0, 2, now), 0);
            Bounds.badState("time -1", () -> early(now), x -> x.publish(0, 2, now + 1));
        }
        Bounds.badState("at tick 0, late 20", () -> early(0), x -> x.publish(0, 2, 20));
    }

    private static void refusedForMore() {
        Bounds.noIndex("no leaf, no level, late -1, full", Bounds::sixty, x -> x.publish(16, 3, -1));
        Bounds.noIndex("no leaf, too late", Bounds::busy, x -> x.publish(-1, 0, 21));
        Bounds.badArgument("no level, too late", Bounds::busy, x -> x.publish(0, 3, 21));
        Bounds.badArgument("no level, full", Bounds::sixty, x -> x.publish(0, -1, 0));
        Bounds.badArgument("late -1, full", Bounds::sixty, x -> x.publish(0, 0, -1));
    }

    // ---- promise 8

    private static void changesOfLeaves() {
        Bounds.promise(8, "the tick minus the tick at which it came to its position is at least its dwell time",
            EventBoundsTest::dwellTimes);
        Bounds.promise(8, "a / b is rounded down", EventBoundsTest::halfOfAnOddDwell);
        Bounds.promise(8, "whose position is not its serving leaf", EventBoundsTest::backInTime);
        Bounds.promise(8, "the tick at which it came there", EventBoundsTest::dwellsAnew);
        Bounds.promise(8, "its stay ends with this tick, and its position serves it from this tick on",
            EventBoundsTest::stayOfTheChange);
        Bounds.promise(8, "Each subscriber that is there, by ascending numbers", EventBoundsTest::goneOnesStay);
    }

    private static CellEvents moving(int sort, int dwell) {
        CellEvents x = Bounds.one(sort, 2, 0);
        x.set(0, dwell);
        x.pass(7);
        x.move(0, 15);
        return x;
    }

    private static void dwellTimes() {
        for (int dwell = 0; dwell <= 9; dwell++) {
            CellEvents x = moving(0, dwell);
            if (dwell > 0) {
                x.pass(dwell);
            }
            Due.same("dwell " + dwell + ", before that tick", x.subscriber(0, 4), 0);
            x.pass(1);
            Due.same("dwell " + dwell + ", in that tick", x.subscriber(0, 4), 15);
        }
        CellEvents y = moving(0, 9);
        y.pass(4);
        y.set(0, 3);
        y.pass(1);
        Due.same("more than its dwell time, as the setting is less now", y.stay(0, 0, 1), 11);
    }

    private static void halfOfAnOddDwell() {
        int[] half = {0, 0, 1, 1, 2, 2, 3, 3, 4, 4};
        for (int dwell = 0; dwell <= 9; dwell++) {
            CellEvents x = moving(1, dwell);
            x.pass(9);
            Due.same("dwell " + dwell + " of a car", x.stay(0, 0, 1), 7 + half[dwell]);
        }
    }

    private static void backInTime() {
        CellEvents x = moving(0, 3);
        x.pass(3);
        x.move(0, 0);
        x.pass(20);
        Due.same("serving leaf", x.subscriber(0, 4), 0);
        Due.same("handovers", x.subscriber(0, 10), 0);
        Due.same("its stay goes on", x.stay(0, 0, 2), Bounds.NONE);
        Due.same("there is no other", x.stay(0, 1, 0), Bounds.NONE);
        CellEvents y = Bounds.one(0, 2, 0);
        y.set(0, 0);
        y.pass(3);
        Due.same("one that never moved, dwell 0", y.subscriber(0, 10), 0);
    }

    private static void dwellsAnew() {
        CellEvents x = moving(0, 3);
        x.pass(3);
        x.move(0, 14);
        x.pass(3);
        Due.same("it dwells anew", x.subscriber(0, 4), 0);
        x.pass(1);
        Due.same("long enough", x.subscriber(0, 4), 14);
        Due.same("leaf 15 never served it", x.stay(0, 1, 0), 0);
        CellEvents y = moving(0, 3);
        y.pass(2);
        y.move(0, 0);
        y.move(0, 15);
        y.pass(3);
        Due.same("away and back dwells anew, too", y.subscriber(0, 4), 0);
        y.pass(1);
        Due.same("long enough", y.subscriber(0, 4), 15);
    }

    private static void stayOfTheChange() {
        CellEvents x = moving(0, 2);
        x.pass(3);
        Due.same("end", x.stay(0, 1, 2), 9);
        Due.same("first tick", x.stay(0, 0, 1), 9);
        Due.same("leaf", x.stay(0, 0, 0), 15);
        Due.same("it goes on", x.stay(0, 0, 2), Bounds.NONE);
        Due.same("the tick", x.whole(3), 10);
    }

    private static void goneOnesStay() {
        CellEvents x = moving(0, 0);
        x.leave(0);
        x.pass(1);
        Due.same("serving leaf", x.subscriber(0, 4), 0);
        Due.same("handovers", x.whole(12), 0);
        CellEvents y = new CellEvents();
        y.set(0, 0);
        for (int number = 0; number < 8; number++) {
            y.subscribe(number % 2, 2, number);
        }
        for (int number = 0; number < 8; number++) {
            y.move(number, 15 - number);
        }
        y.pass(1);
        for (int number = 0; number < 8; number++) {
            Due.same("serving leaf of " + number, y.subscriber(number, 4), 15 - number);
        }
    }

    private static void handovers() {
        Bounds.promise(8, "If events wait in its inbox, it is in handover up to this tick + the handover setting.",
            EventBoundsTest::upToWhichTick);
        Bounds.promise(8, "it is in handover as long as the tick is less", EventBoundsTest::endOfAHandover);
        Bounds.promise(8, "If events wait in its inbox", EventBoundsTest::noneWait);
    }

    private static CellEvents handedOver(int handover, int events) {
        CellEvents x = Bounds.waiting(events);
        x.set(0, 0);
        x.set(2, handover);
        x.move(0, 6);
        return x;
    }

    private static void upToWhichTick() {
        for (int handover = 0; handover <= 9; handover++) {
            CellEvents x = handedOver(handover, 1);
            x.pass(1);
            Due.same("handover " + handover + " in tick 0", x.subscriber(0, 11), handover);
            Due.same("delivered at once", x.whole(9), handover == 0 ? 1 : 0);
        }
        CellEvents y = handedOver(9, 12);
        y.pass(3);
        y.set(2, 1);
        y.move(0, 7);
        y.pass(1);
        Due.same("a change in tick 3 sets it anew", y.subscriber(0, 11), 4);
        Due.same("handovers", y.subscriber(0, 10), 2);
    }

    private static void endOfAHandover() {
        for (int handover = 1; handover <= 9; handover++) {
            CellEvents x = handedOver(handover, 1);
            Due.same("in handover " + handover, x.pass(handover), 0);
            Due.same("the tick is not less", x.whole(3), x.subscriber(0, 11));
            Due.same("it is over", x.pass(1), 1);
        }
    }

    private static void noneWait() {
        CellEvents x = handedOver(9, 0);
        x.pass(1);
        Due.same("up to", x.subscriber(0, 11), 0);
        Due.same("handovers", x.subscriber(0, 10), 1);
        x.publish(6, 2, 0);
        Due.same("what comes then is delivered", x.pass(1), 1);
        CellEvents y = handedOver(9, 1);
        y.pass(1);
        y.leave(0);
        y.subscribe(0, 2, 6);
        y.publish(6, 2, 0);
        Due.same("another one is not in handover", y.pass(1), 1);
    }

    private static void deliveries() {
        Bounds.promise(8, "fewer events were delivered in its serving leaf in this tick than the capacity",
            EventBoundsTest::capacities);
        Bounds.promise(8, "the oldest events of its inbox are delivered, as long as there are some",
            EventBoundsTest::oldestOnes);
        Bounds.promise(8, "Each subscriber that is there and not in handover, by ascending numbers",
            EventBoundsTest::lowestNumberFirst);
        Bounds.promise(8, "When a tick passes, these things happen, in this order", EventBoundsTest::changeFirst);
    }

    private static void capacities() {
        for (int capacity = 1; capacity <= 9; capacity++) {
            CellEvents x = Bounds.waiting(12);
            x.set(1, capacity);
            Due.same("capacity " + capacity, x.pass(1), capacity);
            Due.same("the next tick", x.pass(1), Math.min(capacity, 12 - capacity));
        }
        CellEvents y = new CellEvents();
        for (int number = 0; number < 8; number++) {
            y.subscribe(2, 0, 8 + number / 4);
        }
        y.set(1, 9);
        for (int event = 0; event < 3; event++) {
            y.publish(0, 2, 0);
        }
        // Of leaf 8 and of leaf 9: nine of twelve.
        Due.same("nine in each of two leaves", y.pass(1), 18);
        Due.same("in leaf 8", y.leaf(8, 1), 9);
        Due.same("in leaf 9", y.leaf(9, 1), 9);
        Due.same("none of the last one", y.subscriber(3, 6), 3);
        Due.same("the rest", y.pass(1), 6);
    }

    private static void oldestOnes() {
        CellEvents x = Bounds.waiting(3);
        Due.same("two", x.pass(1), 2);
        Due.same("the oldest one", x.event(0, 5), 1);
        Due.same("the next one", x.event(1, 5), 1);
        Due.same("not the latest one", x.event(2, 5), 0);
        Due.same("it moved up", x.waiting(0, 0), 2);
        Due.same("one is left", x.pass(1), 1);
        Due.same("none are left", x.pass(1), 0);
        Due.same("in all", x.subscriber(0, 8), 3);
    }

    private static void lowestNumberFirst() {
        CellEvents x = new CellEvents();
        x.set(1, 1);
        for (int number = 0; number < 8; number++) {
            x.subscribe(2, 2, 4);
        }
        x.publish(4, 2, 0);
        for (int number = 0; number < 8; number++) {
            x.pass(1);
            Due.same("delivered to, after " + number, x.event(0, 5), (2 << number) - 1);
        }
    }

    private static void changeFirst() {
        CellEvents x = handedOver(0, 1);
        x.pass(1);
        Due.same("delivered in the new leaf", x.leaf(6, 1), 1);
        Due.same("not in the old one", x.leaf(5, 1), 0);
        CellEvents y = new CellEvents();
        y.set(0, 0);
        y.set(1, 1);
        y.set(2, 0);
        y.subscribe(2, 0, 5);
        y.subscribe(0, 0, 6);
        y.publish(0, 0, 0);
        y.move(1, 5);
        Due.same("the change of 1 is ahead of the delivery to 0", y.pass(1), 1);
        Due.same("who got it", y.event(0, 5), 1);
    }

    private static void ticks() {
        Bounds.promise(8, "Then the tick increases by 1.", EventBoundsTest::tickByTick);
        Bounds.promise(8, "Ticks are numbered from 0.", () -> Due.same("tick", new CellEvents().whole(3), 0));
        Bounds.promise(8, "`ticks`: 1 to 50", EventBoundsTest::eachNumberOfTicks);
        Bounds.promise(8, "Returns the number of events that were delivered in them.", EventBoundsTest::sumOfTicks);
        Bounds.promise(8, "Throws `IllegalArgumentException` if ticks is out of range",
            EventBoundsTest::ticksOutOfRange);
        Bounds.promise(8, "Throws `IllegalStateException` if the tick would be greater than 9999",
            EventBoundsTest::lastTick);
        Bounds.promise(8, Bounds.FIRST_LISTED, EventBoundsTest::passRefusedForMore);
    }

    private static void tickByTick() {
        CellEvents x = new CellEvents();
        for (int tick = 1; tick <= 5; tick++) {
            x.pass(1);
            Due.same("tick", x.whole(3), tick);
        }
    }

    private static void eachNumberOfTicks() {
        for (int ticks = 1; ticks <= 50; ticks++) {
            CellEvents x = new CellEvents();
            Due.same("pass", x.pass(ticks), 0);
            Due.same("tick", x.whole(3), ticks);
        }
    }

    private static void sumOfTicks() {
        CellEvents x = Bounds.waiting(12);
        x.set(1, 1);
        Due.same("pass(1)", x.pass(1), 1);
        Due.same("pass(10)", x.pass(10), 10);
        Due.same("pass(50), as one is left", x.pass(50), 1);
        Due.same("pass(50), as none are left", x.pass(50), 0);
    }

    private static void ticksOutOfRange() {
        for (int bad : new int[] {0, -1, 51, Bounds.LOW, Bounds.HIGH}) {
            Bounds.badArgument("pass(" + bad + ")", Bounds::busy, x -> x.pass(bad));
        }
    }

    private static void lastTick() {
        Due.same("up to 9999", Bounds.at(9999).whole(3), 9999);
        Bounds.badState("one tick more", () -> Bounds.at(9999), x -> x.pass(1));
        Bounds.badState("fifty ticks more", () -> Bounds.at(9999), x -> x.pass(50));
        Bounds.badState("two ticks at 9998", () -> Bounds.at(9998), x -> x.pass(2));
        Bounds.badState("fifty ticks at 9950", () -> Bounds.at(9950), x -> x.pass(50));
        CellEvents x = Bounds.at(9950);
        Due.same("49 ticks at 9950", x.pass(49), 0);
        Due.same("tick", x.whole(3), 9999);
    }

    private static void passRefusedForMore() {
        Bounds.badArgument("51 ticks at 9999", () -> Bounds.at(9999), x -> x.pass(51));
        Bounds.badArgument("0 ticks at 9999", () -> Bounds.at(9999), x -> x.pass(0));
    }
}
