/** Each sentence that names a boundary case, of promises 15 to 20. */
final class WhatIfBoundsTest {
    private static final String NOBODY = "Throws `IndexOutOfBoundsException` if there is no such subscriber";
    private static final String NOTHING_CHANGES = "what if, which changes nothing";

    private WhatIfBoundsTest() {
    }

    static void run() {
        wouldReach();
        reason();
        servedIn();
        emptyIn();
        covered();
        busiest();
    }

    private static void changesNothing(Bounds.Call call) {
        CellEvents x = Bounds.busy();
        CellEvents twin = Bounds.busy();
        call.on(x);
        Bounds.alike("after the call", x, twin);
    }

    private static void wouldReach() {
        Bounds.promise(15, "whether there are 60 events or not", WhatIfBoundsTest::sixtyEvents);
        Bounds.promise(15, "also to those whose inbox is full", WhatIfBoundsTest::fullInbox);
        Bounds.promise(15, "Returns the set; NONE if it is too late, or its time would be below 0.",
            WhatIfBoundsTest::tooLate);
        Bounds.promise(15, "(the tick with which a stay ended is in the next one)", WhatIfBoundsTest::tickOfTheChange);
        Bounds.promise(15, "Throws `IndexOutOfBoundsException` if there is no such leaf",
            WhatIfBoundsTest::wouldReachNoLeaf);
        Bounds.promise(15, "Throws `IllegalArgumentException` if level is out of range, or late is negative",
            WhatIfBoundsTest::wouldReachOutOfRange);
        Bounds.promise(15, Bounds.FIRST_LISTED, WhatIfBoundsTest::wouldReachRefusedForMore);
        Bounds.promise(15, Bounds.NONE_LAST, WhatIfBoundsTest::wouldReachRefusedRatherThanNone);
        Bounds.promise(15, NOTHING_CHANGES, () -> changesNothing(x -> x.wouldReach(0, 0, 2)));
    }

    private static CellEvents sixtyForNobody() {
        CellEvents x = Bounds.one(0, 2, 5);
        for (int event = 0; event < 60; event++) {
            x.publish(6, 2, 0);
        }
        return x;
    }

    private static void sixtyEvents() {
        Due.same("with 60", sixtyForNobody().wouldReach(5, 2, 0), 1);
        Due.same("with 60, and too late", sixtyForNobody().wouldReach(5, 2, 1), Bounds.NONE);
        Due.same("with none", Bounds.one(0, 2, 5).wouldReach(5, 2, 0), 1);
    }

    private static void fullInbox() {
        Due.same("with 12", Bounds.waiting(12).wouldReach(5, 2, 0), 1);
        Due.same("with 60", Bounds.waiting(60).wouldReach(5, 2, 0), 1);
    }

    private static void tooLate() {
        CellEvents x = Bounds.eight();
        Due.same("time 0", x.wouldReach(0, 0, 0), 255);
        Due.same("time -1", x.wouldReach(0, 0, 1), Bounds.NONE);
        Due.same("far below", x.wouldReach(0, 0, Bounds.HIGH), Bounds.NONE);
        x.pass(20);
        Due.same("as late as it can be", x.wouldReach(0, 0, 8), 255);
        Due.same("later", x.wouldReach(0, 0, 9), Bounds.NONE);
        x.set(3, 20);
        Due.same("20 late, time 0", x.wouldReach(0, 0, 20), 255);
        Due.same("21 late", x.wouldReach(0, 0, 21), Bounds.NONE);
        x.set(3, 0);
        Due.same("lateness 0", x.wouldReach(0, 0, 0), 255);
        Due.same("lateness 0, late", x.wouldReach(0, 0, 1), Bounds.NONE);
        Due.same("nobody is an empty set", new CellEvents().wouldReach(0, 0, 0), 0);
    }

    private static void tickOfTheChange() {
        CellEvents x = Bounds.stays(10);
        for (int leaf = 0; leaf < 10; leaf++) {
            Due.same("leaf " + leaf + " in its tick", x.wouldReach(leaf, 2, 10 - leaf), 1);
            Due.same("leaf " + leaf + " a tick later", x.wouldReach(leaf, 2, 9 - leaf), leaf == 9 ? 1 : 0);
        }
        Due.same("the eleventh stay back", Bounds.stays(11).wouldReach(0, 0, 11), 0);
    }

    private static void wouldReachNoLeaf() {
        for (int bad : Bounds.outside(0, 15)) {
            Bounds.noIndex("leaf " + bad, Bounds::busy, x -> x.wouldReach(bad, 0, 0));
        }
        Due.same("leaf 0", Bounds.eight().wouldReach(0, 2, 0), 1);
        Due.same("leaf 15", Bounds.one(0, 2, 15).wouldReach(15, 2, 0), 1);
    }

    private static void wouldReachOutOfRange() {
        for (int bad : Bounds.outside(0, 2)) {
            Bounds.badArgument("level " + bad, Bounds::busy, x -> x.wouldReach(0, bad, 0));
        }
        for (int bad : new int[] {-1, -2, Bounds.LOW}) {
            Bounds.badArgument("late " + bad, Bounds::busy, x -> x.wouldReach(0, 0, bad));
        }
    }

    private static void wouldReachRefusedForMore() {
        Bounds.noIndex("no leaf, no level", Bounds::busy, x -> x.wouldReach(16, 3, 0));
        Bounds.noIndex("no leaf, late -1", Bounds::busy, x -> x.wouldReach(-1, 0, -1));
    }

    private static void wouldReachRefusedRatherThanNone() {
        Bounds.noIndex("no leaf, too late", Bounds::busy, x -> x.wouldReach(16, 0, 99));
        Bounds.badArgument("no level, too late", Bounds::busy, x -> x.wouldReach(0, 3, 99));
    }

    private static void reason() {
        Bounds.promise(16, "0 it would get it", WhatIfBoundsTest::wouldGetIt);
        Bounds.promise(16, "1 it is gone", WhatIfBoundsTest::reasonGone);
        Bounds.promise(16, "2 the areas do not overlap, but they would if its position served it",
            WhatIfBoundsTest::reasonPosition);
        Bounds.promise(16, "3 they do not overlap", WhatIfBoundsTest::reasonNoOverlap);
        Bounds.promise(16, "4 its inbox is full (it would be dropped)", WhatIfBoundsTest::reasonFull);
        Bounds.promise(16, "otherwise the first of these that applies", WhatIfBoundsTest::firstReason);
        Bounds.promise(16, "published now and is not late", WhatIfBoundsTest::sixtyAreNoReason);
        Bounds.promise(16, "Throws `IndexOutOfBoundsException` if there is no such subscriber or leaf",
            WhatIfBoundsTest::reasonOfNobodyOrNowhere);
        Bounds.promise(16, "Throws `IllegalArgumentException` if level is out of range",
            WhatIfBoundsTest::reasonOutOfRange);
        Bounds.promise(16, Bounds.FIRST_LISTED, WhatIfBoundsTest::reasonRefusedForMore);
        Bounds.promise(16, NOTHING_CHANGES, () -> changesNothing(x -> x.reason(0, 6, 2)));
    }

    private static void wouldGetIt() {
        Due.same("its leaf", Bounds.waiting(0).reason(0, 5, 2), 0);
        Due.same("with room for one", Bounds.waiting(11).reason(0, 5, 2), 0);
        Due.same("leaf 15", Bounds.one(2, 2, 15).reason(0, 15, 2), 0);
    }

    private static void reasonGone() {
        CellEvents x = Bounds.eight();
        x.leave(7);
        Due.same("gone", x.reason(7, 7, 2), 1);
        Due.same("gone, all leaves", x.reason(7, 0, 0), 1);
        Due.same("another one", x.reason(6, 6, 2), 0);
    }

    private static CellEvents onItsWay(int events) {
        CellEvents x = Bounds.waiting(events);
        x.move(0, 6);
        return x;
    }

    private static void reasonPosition() {
        Due.same("its position", onItsWay(0).reason(0, 6, 2), 2);
        Due.same("the quad of its position", onItsWay(0).reason(0, 3, 1), 2);
        Due.same("its serving leaf", onItsWay(0).reason(0, 5, 2), 0);
        CellEvents x = onItsWay(0);
        x.pass(4);
        Due.same("when its position serves it", x.reason(0, 6, 2), 0);
        Due.same("not the leaf of before", x.reason(0, 5, 2), 3);
    }

    private static void reasonNoOverlap() {
        Due.same("neither", onItsWay(0).reason(0, 9, 2), 3);
        Due.same("at its serving leaf", Bounds.waiting(0).reason(0, 6, 2), 3);
        Due.same("another quad", Bounds.waiting(0).reason(0, 6, 1), 3);
    }

    private static void reasonFull() {
        Due.same("with 12", Bounds.waiting(12).reason(0, 5, 2), 4);
        Due.same("with 60", Bounds.waiting(60).reason(0, 5, 2), 4);
        CellEvents x = Bounds.waiting(12);
        x.pass(1);
        Due.same("after a tick", x.reason(0, 5, 2), 0);
    }

    private static void firstReason() {
        Due.same("full, but its position", onItsWay(12).reason(0, 6, 2), 2);
        Due.same("full, but no overlap", onItsWay(12).reason(0, 9, 2), 3);
        Due.same("full, on its way", onItsWay(12).reason(0, 5, 2), 4);
        CellEvents x = onItsWay(12);
        x.leave(0);
        Due.same("gone, its position", x.reason(0, 6, 2), 1);
        Due.same("gone, no overlap", x.reason(0, 9, 2), 1);
        Due.same("gone, its serving leaf", x.reason(0, 5, 2), 1);
    }

    private static void sixtyAreNoReason() {
        Due.same("with 60", sixtyForNobody().reason(0, 5, 2), 0);
        CellEvents x = Bounds.stays(2);
        Due.same("the leaf that served it a tick ago", x.reason(0, 0, 2), 3);
    }

    private static void reasonOfNobodyOrNowhere() {
        for (int bad : Bounds.outside(0, 3)) {
            Bounds.noIndex("subscriber " + bad, Bounds::busy, x -> x.reason(bad, 0, 0));
        }
        for (int bad : Bounds.outside(0, 7)) {
            Bounds.noIndex("subscriber " + bad + " of 8", Bounds::eight, x -> x.reason(bad, 0, 0));
        }
        for (int bad : Bounds.outside(0, 15)) {
            Bounds.noIndex("leaf " + bad, Bounds::busy, x -> x.reason(0, bad, 0));
            Bounds.noIndex("leaf " + bad + ", gone", Bounds::busy, x -> x.reason(3, bad, 0));
        }
    }

    private static void reasonOutOfRange() {
        for (int bad : Bounds.outside(0, 2)) {
            Bounds.badArgument("level " + bad, Bounds::busy, x -> x.reason(0, 0, bad));
            Bounds.badArgument("level " + bad + ", gone", Bounds::busy, x -> x.reason(3, 0, bad));
        }
    }

    private static void reasonRefusedForMore() {
        Bounds.noIndex("nobody, no level", Bounds::busy, x -> x.reason(4, 0, 3));
        Bounds.noIndex("no leaf, no level", Bounds::busy, x -> x.reason(0, 16, -1));
    }

    private static void servedIn() {
        Bounds.promise(17, "Returns the ticks, the one in which it changes counted", WhatIfBoundsTest::ticksOfTheDwell);
        Bounds.promise(17, "0 if it serves it already", WhatIfBoundsTest::servedAlready);
        Bounds.promise(17, "NONE if it is gone", WhatIfBoundsTest::servedInOfOneThatIsGone);
        Bounds.promise(17, "here and below also beyond the tick 9999", WhatIfBoundsTest::servedBeyondTheLastTick);
        Bounds.promise(17, NOBODY, () -> nobody((x, number) -> x.servedIn(number)));
        Bounds.promise(17, Bounds.NONE_LAST,
            () -> Bounds.noIndex("one behind the one that is gone", Bounds::busy, x -> x.servedIn(4)));
        Bounds.promise(17, NOTHING_CHANGES, () -> changesNothing(x -> x.servedIn(0)));
    }

    private interface Of {
        int call(CellEvents x, int number);
    }

    private static void nobody(Of of) {
        for (int bad : Bounds.outside(0, 3)) {
            Bounds.noIndex("subscriber " + bad, Bounds::busy, x -> of.call(x, bad));
        }
        for (int bad : Bounds.outside(0, 7)) {
            Bounds.noIndex("subscriber " + bad + " of 8", Bounds::eight, x -> of.call(x, bad));
        }
        Bounds.noIndex("nobody yet", CellEvents::new, x -> of.call(x, 0));
    }

    private static void ticksOfTheDwell() {
        for (int dwell = 0; dwell <= 9; dwell++) {
            CellEvents x = new CellEvents();
            x.set(0, dwell);
            x.subscribe(0, 2, 5);
            x.subscribe(1, 2, 5);
            x.pass(3);
            x.move(0, 6);
            x.move(1, 6);
            for (int passed = 0; passed <= dwell + 2; passed++) {
                Due.same("dwell " + dwell + ", walker, after " + passed, x.servedIn(0), Math.max(0, dwell + 1 - passed));
                Due.same("dwell " + dwell + ", car, after " + passed, x.servedIn(1),
                    Math.max(0, dwell / 2 + 1 - passed));
                x.pass(1);
            }
        }
        CellEvents y = Bounds.one(0, 2, 5);
        y.set(0, 9);
        y.move(0, 6);
        y.pass(9);
        y.set(0, 0);
        Due.same("due for long", y.servedIn(0), 1);
    }

    private static void servedAlready() {
        for (int sort = 0; sort <= 2; sort++) {
            Due.same("sort " + sort, Bounds.one(sort, 2, 5).servedIn(0), 0);
        }
        CellEvents x = onItsWay(0);
        x.pass(1);
        x.move(0, 5);
        Due.same("back at its serving leaf", x.servedIn(0), 0);
    }

    private static void servedInOfOneThatIsGone() {
        CellEvents x = Bounds.one(0, 2, 5);
        x.leave(0);
        Due.same("at its serving leaf", x.servedIn(0), Bounds.NONE);
        CellEvents y = onItsWay(0);
        y.leave(0);
        Due.same("on its way", y.servedIn(0), Bounds.NONE);
    }

    private static void servedBeyondTheLastTick() {
        CellEvents x = Bounds.at(9999);
        x.set(0, 9);
        x.move(0, 1);
        Due.same("at tick 9999", x.servedIn(0), 10);
        CellEvents y = Bounds.at(9998);
        y.move(0, 1);
        Due.same("at tick 9998", y.servedIn(0), 4);
    }

    private static void emptyIn() {
        Bounds.promise(18, "after how many ticks the inbox of a subscriber would be empty", WhatIfBoundsTest::emptyAfter);
        Bounds.promise(18, "if nothing but ticks passed", WhatIfBoundsTest::whatComesMeanwhile);
        Bounds.promise(18, "Returns the ticks, 0 to 200; NONE if it would take more.", WhatIfBoundsTest::longest);
        Bounds.promise(18, "here and below also beyond the tick 9999", WhatIfBoundsTest::emptyBeyondTheLastTick);
        Bounds.promise(18, NOBODY, () -> nobody((x, number) -> x.emptyIn(number)));
        Bounds.promise(18, NOTHING_CHANGES, () -> changesNothing(x -> x.emptyIn(2)));
    }

    private static void emptyAfter() {
        Due.same("empty already", Bounds.waiting(0).emptyIn(0), 0);
        for (int events = 1; events <= 12; events++) {
            CellEvents x = Bounds.waiting(events);
            Due.same("capacity 2, with " + events, x.emptyIn(0), (events + 1) / 2);
            x.set(1, 1);
            Due.same("capacity 1, with " + events, x.emptyIn(0), events);
            x.set(1, 9);
            Due.same("capacity 9, with " + events, x.emptyIn(0), events <= 9 ? 1 : 2);
        }
        Due.same("with 13", Bounds.waiting(13).emptyIn(0), 6);
        CellEvents x = Bounds.waiting(12);
        x.leave(0);
        Due.same("gone", x.emptyIn(0), 0);
    }

    private static void whatComesMeanwhile() {
        CellEvents x = onItsWay(9);
        // Six in the ticks 0 to 2, a handover in 3 and 4, three in 5 and 6.
        Due.same("a change on the way", x.emptyIn(0), 7);
        x.set(2, 0);
        Due.same("a change without a handover", x.emptyIn(0), 5);
        CellEvents y = onItsWay(6);
        Due.same("empty before the change", y.emptyIn(0), 3);
        y.pass(2);
        Due.same("two ticks later", y.emptyIn(0), 1);
        y.pass(1);
        Due.same("three ticks later", y.emptyIn(0), 0);
        CellEvents car = Bounds.one(1, 2, 5);
        for (int event = 0; event < 5; event++) {
            car.publish(5, 2, 0);
        }
        car.move(0, 6);
        // A car dwells half of it: two in tick 0, a handover in 1 and 2, three in 3 and 4.
        Due.same("a change of a car", car.emptyIn(0), 5);
        car.set(0, 5);
        Due.same("four, a handover in 2 and 3, one in 4", car.emptyIn(0), 5);
        car.set(0, 6);
        Due.same("empty before the change", car.emptyIn(0), 3);
    }

    private static CellEvents crowd() {
        CellEvents x = new CellEvents();
        x.set(0, 0);
        x.set(1, 1);
        x.set(2, 9);
        for (int number = 0; number < 8; number++) {
            x.subscribe(0, 0, 5);
        }
        for (int event = 0; event < 12; event++) {
            x.publish(5, 2, 0);
        }
        return x;
    }

    /** Longer than 113 ticks can't be reached: 96 events, one a tick, and two handovers on the way. */
    private static void longest() {
        CellEvents x = crowd();
        Due.same("the last of eight", x.emptyIn(7), 96);
        for (int number = 0; number < 8; number++) {
            x.move(number, 6);
        }
        x.pass(1);
        x.set(0, 9);
        for (int number = 0; number < 8; number++) {
            x.move(number, 7);
        }
        // Tick 1: in handover up to 9; one event in tick 9; a handover from 10 up to 19; 95 events from 19 on.
        Due.same("the first of eight", x.emptyIn(0), 29);
        Due.same("the last of eight", x.emptyIn(7), 113);
        x.pass(50);
        Due.same("the first of eight is empty", x.emptyIn(0), 0);
        Due.same("the last of eight, 50 ticks later", x.emptyIn(7), 63);
        x.pass(50);
        Due.same("the last of eight, 100 ticks later", x.emptyIn(7), 13);
        x.pass(12);
        Due.same("one tick before", x.emptyIn(7), 1);
        x.pass(1);
        Due.same("then", x.emptyIn(7), 0);
    }

    private static void emptyBeyondTheLastTick() {
        CellEvents x = Bounds.at(9999);
        for (int event = 0; event < 12; event++) {
            x.publish(0, 2, 0);
        }
        Due.same("at tick 9999", x.emptyIn(0), 6);
        Due.same("the tick stays", x.whole(3), 9999);
        x.set(0, 0);
        x.set(2, 9);
        x.move(0, 1);
        Due.same("with a handover", x.emptyIn(0), 15);
        Due.same("it goes on beyond what can pass", Due.outcome(() -> x.pass(1)).equals("IllegalStateException") ? 1 : 0,
            1);
    }

    private static void covered() {
        Bounds.promise(19, "Returns the leaves at which an event of level 2 that is not late would be routed to a"
            + " subscriber now", WhatIfBoundsTest::coveredLeaves);
        Bounds.promise(19, "also if its inbox is full", () -> {
            Due.same("with 12", Bounds.waiting(12).covered(0), 1 << 5);
            Due.same("with 60 events", Bounds.sixty().covered(0), 1 << 5);
        });
        Bounds.promise(19, "0 if it is gone", WhatIfBoundsTest::coveredByOneThatIsGone);
        Bounds.promise(19, NOBODY, () -> nobody((x, number) -> x.covered(number)));
        Bounds.promise(19, NOTHING_CHANGES, () -> changesNothing(x -> x.covered(2)));
    }

    private static void coveredLeaves() {
        Due.same("leaf 0", Bounds.one(0, 2, 0).covered(0), 1);
        Due.same("leaf 15", Bounds.one(0, 2, 15).covered(0), 1 << 15);
        Due.same("the first quad", Bounds.one(0, 1, 0).covered(0), 0x0033);
        Due.same("the last quad", Bounds.one(0, 1, 15).covered(0), 0xCC00);
        Due.same("all leaves", Bounds.one(0, 0, 15).covered(0), 0xFFFF);
        Due.same("on its way", onItsWay(0).covered(0), 1 << 5);
        CellEvents x = onItsWay(0);
        x.pass(4);
        Due.same("when its position serves it", x.covered(0), 1 << 6);
    }

    private static void coveredByOneThatIsGone() {
        for (int level = 0; level <= 2; level++) {
            CellEvents x = Bounds.one(0, level, 15);
            x.leave(0);
            Due.same("level " + level, x.covered(0), 0);
        }
    }

    private static void busiest() {
        Bounds.promise(20, "in the inboxes of the subscribers that it serves and that are there",
            WhatIfBoundsTest::busiestServingLeaf);
        Bounds.promise(20, "Returns the leaf, of several the lowest one", WhatIfBoundsTest::lowestOfSeveral);
        Bounds.promise(20, "NONE if none wait", WhatIfBoundsTest::noneWait);
        Bounds.promise(20, NOTHING_CHANGES, () -> changesNothing(CellEvents::busiest));
    }

    private static void busiestServingLeaf() {
        Due.same("not the position", onItsWay(1).busiest(), 5);
        CellEvents x = onItsWay(12);
        x.pass(4);
        Due.same("the position serves now", x.busiest(), 6);
        x.subscribe(2, 2, 9);
        x.publish(9, 2, 0);
        Due.same("more wait in leaf 6", x.busiest(), 6);
        x.leave(0);
        Due.same("gone", x.busiest(), 9);
        CellEvents y = new CellEvents();
        y.subscribe(2, 2, 3);
        y.subscribe(2, 2, 4);
        y.subscribe(2, 2, 4);
        y.publish(3, 2, 0);
        y.publish(4, 2, 0);
        Due.same("one of each of two is more than one", y.busiest(), 4);
    }

    private static void lowestOfSeveral() {
        CellEvents x = new CellEvents();
        for (int leaf = 15; leaf >= 8; leaf--) {
            x.subscribe(2, 2, leaf);
        }
        for (int leaf = 15; leaf >= 8; leaf--) {
            x.publish(leaf, 2, 0);
            Due.same("one in each from " + leaf + " on", x.busiest(), leaf);
        }
        x.publish(15, 2, 0);
        Due.same("two in the last one", x.busiest(), 15);
        CellEvents y = Bounds.one(2, 2, 0);
        y.publish(0, 2, 0);
        Due.same("leaf 0", y.busiest(), 0);
    }

    private static void noneWait() {
        Due.same("nobody", new CellEvents().busiest(), Bounds.NONE);
        Due.same("no events", Bounds.eight().busiest(), Bounds.NONE);
        CellEvents x = Bounds.waiting(1);
        x.pass(1);
        Due.same("delivered", x.busiest(), Bounds.NONE);
        CellEvents y = Bounds.waiting(12);
        y.leave(0);
        Due.same("lost", y.busiest(), Bounds.NONE);
        Due.same("for nobody", sixtyForNobody().busiest(), Bounds.NONE);
    }
}
