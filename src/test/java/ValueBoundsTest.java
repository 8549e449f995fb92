/** Each sentence that names a boundary case, of promises 9 to 14. */
final class ValueBoundsTest {
    private static final String NOBODY = "Throws `IndexOutOfBoundsException` if there is no such subscriber";
    private static final String NO_VALUE = "Throws `IllegalArgumentException` if what is out of range";

    private ValueBoundsTest() {
    }

    static void run() {
        subscriber();
        stay();
        waiting();
        event();
        leaf();
        whole();
    }

    private static void subscriber() {
        Bounds.promise(9, "3 tick at which it came there", ValueBoundsTest::tickAtWhichItCame);
        Bounds.promise(9, "4 serving leaf (the last one, if it is gone)", ValueBoundsTest::lastServingLeaf);
        Bounds.promise(9, "5 1 if it is there or 0 if it is gone", ValueBoundsTest::thereOrGone);
        Bounds.promise(9, "6 events in its inbox", ValueBoundsTest::inItsInbox);
        Bounds.promise(9, "7 events routed to it (dropped ones too)", ValueBoundsTest::routedOnes);
        Bounds.promise(9, "8 events delivered to it, 9 events dropped", ValueBoundsTest::deliveredAndDropped);
        Bounds.promise(9, "10 handovers: how often its serving leaf changed", ValueBoundsTest::handovers);
        Bounds.promise(9, "11 the tick up to which it is in handover", ValueBoundsTest::handoverThatIsOver);
        Bounds.promise(9, "Returns that value.", ValueBoundsTest::valuesOfANewOne);
        Bounds.promise(9, NOBODY, ValueBoundsTest::subscriberWhoIsNone);
        Bounds.promise(9, NO_VALUE, ValueBoundsTest::subscriberOutOfRange);
        Bounds.promise(9, Bounds.FIRST_LISTED, ValueBoundsTest::subscriberRefusedForMore);
    }

    private static void tickAtWhichItCame() {
        CellEvents x = Bounds.at(3);
        Due.same("where it was subscribed", x.subscriber(0, 3), 0);
        x.move(0, 1);
        x.pass(9);
        Due.same("not the tick from which on it serves", x.subscriber(0, 3), 3);
    }

    private static void lastServingLeaf() {
        CellEvents x = Bounds.one(0, 2, 5);
        x.move(0, 6);
        x.leave(0);
        Due.same("it left before leaf 6 served it", x.subscriber(0, 4), 5);
        Due.same("its position", x.subscriber(0, 2), 6);
        CellEvents y = Bounds.one(0, 2, 5);
        y.move(0, 6);
        y.pass(4);
        y.leave(0);
        Due.same("it left then", y.subscriber(0, 4), 6);
    }

    private static void thereOrGone() {
        CellEvents x = Bounds.one(2, 2, 5);
        Due.same("there", x.subscriber(0, 5), 1);
        x.leave(0);
        Due.same("gone", x.subscriber(0, 5), 0);
    }

    private static void inItsInbox() {
        for (int events : new int[] {0, 1, 11, 12}) {
            Due.same("with " + events, Bounds.waiting(events).subscriber(0, 6), events);
        }
        Due.same("with 13", Bounds.waiting(13).subscriber(0, 6), 12);
        CellEvents x = Bounds.waiting(12);
        x.pass(6);
        Due.same("all delivered", x.subscriber(0, 6), 0);
    }

    private static void routedOnes() {
        Due.same("none", Bounds.waiting(0).subscriber(0, 7), 0);
        Due.same("a full inbox", Bounds.waiting(12).subscriber(0, 7), 12);
        Due.same("one more", Bounds.waiting(13).subscriber(0, 7), 13);
        CellEvents x = Bounds.waiting(60);
        x.leave(0);
        Due.same("all events, and it is gone", x.subscriber(0, 7), 60);
    }

    private static void deliveredAndDropped() {
        CellEvents x = Bounds.waiting(13);
        Due.same("delivered", x.subscriber(0, 8), 0);
        Due.same("dropped", x.subscriber(0, 9), 1);
        x.pass(1);
        Due.same("delivered", x.subscriber(0, 8), 2);
        x.leave(0);
        Due.same("delivered, lost ones are not", x.subscriber(0, 8), 2);
        Due.same("dropped, lost ones are not", x.subscriber(0, 9), 1);
    }

    private static void handovers() {
        CellEvents x = Bounds.one(0, 2, 0);
        x.move(0, 1);
        x.move(0, 0);
        x.pass(9);
        Due.same("away and back in time", x.subscriber(0, 10), 0);
        x.move(0, 1);
        x.pass(9);
        Due.same("changed", x.subscriber(0, 10), 1);
        x.move(0, 0);
        x.pass(9);
        Due.same("changed back", x.subscriber(0, 10), 2);
        Due.same("more than the stays that are remembered", Bounds.stays(15).subscriber(0, 10), 14);
    }

    private static void handoverThatIsOver() {
        CellEvents x = Bounds.waiting(1);
        x.set(0, 0);
        x.move(0, 6);
        x.pass(1);
        Due.same("up to", x.subscriber(0, 11), 2);
        x.pass(9);
        Due.same("when it is over", x.subscriber(0, 11), 2);
        Due.same("at first", Bounds.at(5).subscriber(0, 11), 0);
    }

    private static void valuesOfANewOne() {
        CellEvents x = new CellEvents();
        x.pass(9);
        x.subscribe(1, 0, 15);
        int[] due = {1, 0, 15, 9, 15, 1, 0, 0, 0, 0, 0, 0};
        for (int what = 0; what < 12; what++) {
            Due.same("what " + what, x.subscriber(0, what), due[what]);
        }
    }

    private static void subscriberWhoIsNone() {
        for (int bad : Bounds.outside(0, 3)) {
            Bounds.noIndex("subscriber " + bad, Bounds::busy, x -> x.subscriber(bad, 0));
        }
        for (int bad : Bounds.outside(0, 7)) {
            Bounds.noIndex("subscriber " + bad + " of 8", Bounds::eight, x -> x.subscriber(bad, 0));
        }
        Due.same("the last one of 8", Bounds.eight().subscriber(7, 2), 7);
    }

    private static void subscriberOutOfRange() {
        for (int bad : Bounds.outside(0, 11)) {
            Bounds.badArgument("what " + bad, Bounds::busy, x -> x.subscriber(0, bad));
            Bounds.badArgument("what " + bad + " of one that is gone", Bounds::busy, x -> x.subscriber(3, bad));
        }
    }

    private static void subscriberRefusedForMore() {
        Bounds.noIndex("nobody, what 12", Bounds::busy, x -> x.subscriber(4, 12));
        Bounds.noIndex("nobody, what -1", Bounds::busy, x -> x.subscriber(-1, -1));
    }

    private static void stay() {
        Bounds.promise(10, "`index`: 0 for the latest one, and so on", ValueBoundsTest::latestFirst);
        Bounds.promise(10, "The latest 10 stays are remembered.", ValueBoundsTest::tenAreRemembered);
        Bounds.promise(10, "2 tick with which it ended (NONE if it goes on)", ValueBoundsTest::goesOnOrEnded);
        Bounds.promise(10, "Returns that value; NONE if there are not so many.", ValueBoundsTest::notSoManyStays);
        Bounds.promise(10, NOBODY, ValueBoundsTest::stayOfNobody);
        Bounds.promise(10, "Throws `IllegalArgumentException` if index is negative, or what is out of range",
            ValueBoundsTest::stayOutOfRange);
        Bounds.promise(10, Bounds.FIRST_LISTED, ValueBoundsTest::stayRefusedForMore);
        Bounds.promise(10, Bounds.NONE_LAST, ValueBoundsTest::stayRefusedRatherThanNone);
    }

    private static void sameStay(String what, CellEvents x, int index, int... due) {
        for (int k = 0; k < 3; k++) {
            Due.same(what + ", " + k, x.stay(0, index, k), due[k]);
        }
    }

    private static void latestFirst() {
        CellEvents x = Bounds.stays(3);
        sameStay("the latest one", x, 0, 2, 2, Bounds.NONE);
        sameStay("the one before", x, 1, 1, 1, 2);
        sameStay("the first one", x, 2, 0, 0, 1);
    }

    private static void tenAreRemembered() {
        CellEvents x = Bounds.stays(10);
        sameStay("the first of ten", x, 9, 0, 0, 1);
        CellEvents y = Bounds.stays(11);
        sameStay("the first that is remembered of eleven", y, 9, 1, 1, 2);
        sameStay("the latest one", y, 0, 10, 10, Bounds.NONE);
        CellEvents z = Bounds.stays(16);
        for (int index = 0; index < 10; index++) {
            sameStay("of 16", z, index, 15 - index, 15 - index, index == 0 ? Bounds.NONE : 16 - index);
        }
    }

    private static void goesOnOrEnded() {
        CellEvents x = Bounds.stays(2);
        Due.same("it goes on", x.stay(0, 0, 2), Bounds.NONE);
        Due.same("it ended", x.stay(0, 1, 2), 1);
        x.leave(0);
        Due.same("it ended, too", x.stay(0, 0, 2), 2);
    }

    private static void notSoManyStays() {
        for (int what = 0; what < 3; what++) {
            Due.same("the second of one", Bounds.one(0, 2, 5).stay(0, 1, what), Bounds.NONE);
            Due.same("far behind the one", Bounds.one(0, 2, 5).stay(0, Bounds.HIGH, what), Bounds.NONE);
            Due.same("the eleventh of ten", Bounds.stays(10).stay(0, 10, what), Bounds.NONE);
            Due.same("the eleventh of eleven", Bounds.stays(11).stay(0, 10, what), Bounds.NONE);
            Due.same("far behind ten", Bounds.stays(11).stay(0, Bounds.HIGH, what), Bounds.NONE);
        }
    }

    private static void stayOfNobody() {
        for (int bad : Bounds.outside(0, 3)) {
            Bounds.noIndex("subscriber " + bad, Bounds::busy, x -> x.stay(bad, 0, 0));
        }
        for (int bad : Bounds.outside(0, 7)) {
            Bounds.noIndex("subscriber " + bad + " of 8", Bounds::eight, x -> x.stay(bad, 0, 0));
        }
    }

    private static void stayOutOfRange() {
        for (int bad : new int[] {-1, -2, Bounds.LOW}) {
            Bounds.badArgument("index " + bad, Bounds::busy, x -> x.stay(0, bad, 0));
        }
        for (int bad : Bounds.outside(0, 2)) {
            Bounds.badArgument("what " + bad, Bounds::busy, x -> x.stay(0, 0, bad));
        }
    }

    private static void stayRefusedForMore() {
        Bounds.noIndex("nobody, index -1", Bounds::busy, x -> x.stay(4, -1, 0));
        Bounds.noIndex("nobody, what 3", Bounds::busy, x -> x.stay(-1, 0, 3));
    }

    private static void stayRefusedRatherThanNone() {
        Bounds.badArgument("not so many, what 3", Bounds::busy, x -> x.stay(0, 1, 3));
        Bounds.badArgument("not so many, what -1", Bounds::busy, x -> x.stay(0, Bounds.HIGH, -1));
        Bounds.noIndex("nobody, not so many", Bounds::busy, x -> x.stay(4, 99, 0));
    }

    private static void waiting() {
        Bounds.promise(11, "`index`: 0 for the oldest one, and so on", ValueBoundsTest::oldestFirst);
        Bounds.promise(11, "Returns the number of the event; NONE if there are not so many.",
            ValueBoundsTest::notSoManyWait);
        Bounds.promise(11, NOBODY, ValueBoundsTest::waitingForNobody);
        Bounds.promise(11, "Throws `IllegalArgumentException` if index is negative",
            ValueBoundsTest::waitingOutOfRange);
        Bounds.promise(11, Bounds.FIRST_LISTED, () -> {
            Bounds.noIndex("nobody, index -1", Bounds::busy, x -> x.waiting(4, -1));
            Bounds.noIndex("nobody, index far below", Bounds::busy, x -> x.waiting(-1, Bounds.LOW));
        });
        Bounds.promise(11, Bounds.NONE_LAST,
            () -> Bounds.noIndex("nobody, not so many", Bounds::busy, x -> x.waiting(4, 99)));
    }

    private static void oldestFirst() {
        CellEvents x = Bounds.waiting(13);
        for (int index = 0; index < 12; index++) {
            Due.same("index " + index, x.waiting(0, index), index);
        }
        x.pass(5);
        Due.same("the eleventh is the oldest now", x.waiting(0, 0), 10);
        Due.same("the twelfth", x.waiting(0, 1), 11);
    }

    private static void notSoManyWait() {
        Due.same("the first of none", Bounds.waiting(0).waiting(0, 0), Bounds.NONE);
        Due.same("the second of one", Bounds.waiting(1).waiting(0, 1), Bounds.NONE);
        Due.same("the twelfth of eleven", Bounds.waiting(11).waiting(0, 11), Bounds.NONE);
        Due.same("the thirteenth of thirteen", Bounds.waiting(13).waiting(0, 12), Bounds.NONE);
        Due.same("far behind", Bounds.waiting(13).waiting(0, Bounds.HIGH), Bounds.NONE);
        CellEvents x = Bounds.waiting(3);
        x.pass(1);
        Due.same("the second of the one that is left", x.waiting(0, 1), Bounds.NONE);
        x.leave(0);
        Due.same("of one that is gone", x.waiting(0, 0), Bounds.NONE);
    }

    private static void waitingForNobody() {
        for (int bad : Bounds.outside(0, 3)) {
            Bounds.noIndex("subscriber " + bad, Bounds::busy, x -> x.waiting(bad, 0));
        }
        for (int bad : Bounds.outside(0, 7)) {
            Bounds.noIndex("subscriber " + bad + " of 8", Bounds::eight, x -> x.waiting(bad, 0));
        }
    }

    private static void waitingOutOfRange() {
        for (int bad : new int[] {-1, -2, Bounds.LOW}) {
            Bounds.badArgument("index " + bad, Bounds::busy, x -> x.waiting(0, bad));
            Bounds.badArgument("index " + bad + ", none wait", () -> Bounds.waiting(0), x -> x.waiting(0, bad));
        }
    }

    private static void event() {
        Bounds.promise(12, "4 set of the subscribers to which it was routed (dropped ones too), bit s for the subscriber"
            + " s", ValueBoundsTest::routedSet);
        Bounds.promise(12, "5 set of those to which it was delivered", ValueBoundsTest::deliveredSet);
        Bounds.promise(12, "6 how many of those to which it was routed have it in their inbox",
            ValueBoundsTest::inHowManyInboxes);
        Bounds.promise(12, "Returns that value.", ValueBoundsTest::valuesOfALateEvent);
        Bounds.promise(12, "Throws `IndexOutOfBoundsException` if there is no such event", ValueBoundsTest::noSuchEvent);
        Bounds.promise(12, NO_VALUE, ValueBoundsTest::eventOutOfRange);
        Bounds.promise(12, Bounds.FIRST_LISTED, () -> {
            Bounds.noIndex("no event, what 7", Bounds::busy, x -> x.event(3, 7));
            Bounds.noIndex("no event, what -1", CellEvents::new, x -> x.event(-1, -1));
        });
    }

    private static void routedSet() {
        CellEvents x = Bounds.eight();
        x.publish(0, 2, 0);
        x.publish(7, 2, 0);
        x.publish(8, 2, 0);
        Due.same("subscriber 0", x.event(0, 4), 1);
        Due.same("subscriber 7", x.event(1, 4), 128);
        Due.same("nobody", x.event(2, 4), 0);
        Due.same("dropped", Bounds.waiting(13).event(12, 4), 1);
        CellEvents y = Bounds.waiting(1);
        y.leave(0);
        Due.same("lost", y.event(0, 4), 1);
    }

    private static void deliveredSet() {
        CellEvents x = Bounds.eight();
        x.publish(0, 0, 0);
        Due.same("waiting for all", x.event(0, 5), 0);
        x.leave(7);
        x.pass(1);
        Due.same("delivered to all but the last one", x.event(0, 5), 127);
        CellEvents y = Bounds.waiting(13);
        y.pass(50);
        Due.same("the twelfth", y.event(11, 5), 1);
        Due.same("the one that was dropped", y.event(12, 5), 0);
        y.leave(0);
        Due.same("delivered to one that is gone now", y.event(11, 5), 1);
    }

    private static void inHowManyInboxes() {
        CellEvents x = Bounds.eight();
        x.publish(0, 0, 0);
        x.publish(8, 2, 0);
        Due.same("all eight", x.event(0, 6), 8);
        Due.same("nobody", x.event(1, 6), 0);
        x.leave(0);
        Due.same("lost by one", x.event(0, 6), 7);
        x.pass(1);
        Due.same("delivered", x.event(0, 6), 0);
        Due.same("dropped", Bounds.waiting(13).event(12, 6), 0);
        Due.same("the last that waits", Bounds.waiting(13).event(11, 6), 1);
    }

    private static void valuesOfALateEvent() {
        CellEvents x = Bounds.at(8);
        x.publish(15, 1, 8);
        int[] due = {15, 1, 0, 8, 0, 0, 0};
        for (int what = 0; what < 7; what++) {
            Due.same("what " + what, x.event(0, what), due[what]);
        }
    }

    private static void noSuchEvent() {
        for (int bad : Bounds.outside(0, 2)) {
            Bounds.noIndex("event " + bad + " of 3", Bounds::busy, x -> x.event(bad, 0));
        }
        for (int bad : Bounds.outside(0, 59)) {
            Bounds.noIndex("event " + bad + " of 60", Bounds::sixty, x -> x.event(bad, 0));
        }
        Bounds.noIndex("event 0 of none", CellEvents::new, x -> x.event(0, 0));
        Due.same("event 59 of 60", Bounds.sixty().event(59, 0), 5);
    }

    private static void eventOutOfRange() {
        for (int bad : Bounds.outside(0, 6)) {
            Bounds.badArgument("what " + bad, Bounds::busy, x -> x.event(0, bad));
        }
    }

    private static void leaf() {
        Bounds.promise(13, "0 subscribers that it serves and that are there", ValueBoundsTest::servedByALeaf);
        Bounds.promise(13, "1 events that were delivered in it, in all", ValueBoundsTest::deliveredInALeaf);
        Bounds.promise(13, "2 events in the inboxes of the subscribers that it serves", ValueBoundsTest::waitingInALeaf);
        Bounds.promise(13, "3 subscribers that are there and at this position", ValueBoundsTest::standingInALeaf);
        Bounds.promise(13, "Returns that value.", ValueBoundsTest::valuesOfAnEmptyLeaf);
        Bounds.promise(13, "Throws `IndexOutOfBoundsException` if there is no such leaf", () -> {
            for (int bad : Bounds.outside(0, 15)) {
                Bounds.noIndex("leaf " + bad, Bounds::busy, x -> x.leaf(bad, 0));
            }
        });
        Bounds.promise(13, NO_VALUE, () -> {
            for (int bad : Bounds.outside(0, 3)) {
                Bounds.badArgument("what " + bad, Bounds::busy, x -> x.leaf(0, bad));
            }
        });
        Bounds.promise(13, Bounds.FIRST_LISTED, () -> {
            Bounds.noIndex("no leaf, what 4", Bounds::busy, x -> x.leaf(16, 4));
            Bounds.noIndex("no leaf, what -1", Bounds::busy, x -> x.leaf(-1, -1));
        });
    }

    private static void servedByALeaf() {
        CellEvents x = Bounds.one(0, 2, 5);
        for (int number = 1; number < 8; number++) {
            x.subscribe(0, 2, 5);
        }
        Due.same("all eight", x.leaf(5, 0), 8);
        x.move(0, 6);
        Due.same("one is on its way", x.leaf(5, 0), 8);
        x.leave(7);
        Due.same("one is gone", x.leaf(5, 0), 7);
        x.pass(4);
        Due.same("one is served by leaf 6", x.leaf(5, 0), 6);
        Due.same("leaf 6", x.leaf(6, 0), 1);
    }

    private static void deliveredInALeaf() {
        CellEvents x = Bounds.waiting(12);
        Due.same("none yet", x.leaf(5, 1), 0);
        x.pass(2);
        Due.same("four", x.leaf(5, 1), 4);
        x.leave(0);
        Due.same("when nobody is there any more", x.leaf(5, 1), 4);
        CellEvents y = Bounds.one(0, 0, 5);
        y.publish(9, 2, 0);
        y.pass(1);
        Due.same("not the leaf of the event", y.leaf(9, 1), 0);
        Due.same("but the serving one", y.leaf(5, 1), 1);
    }

    private static void waitingInALeaf() {
        CellEvents x = Bounds.waiting(13);
        x.subscribe(0, 2, 5);
        x.publish(5, 2, 0);
        Due.same("twelve and one", x.leaf(5, 2), 13);
        x.move(0, 6);
        Due.same("one is on its way", x.leaf(5, 2), 13);
        Due.same("but is not served there yet", x.leaf(6, 2), 0);
        x.leave(0);
        Due.same("one is gone", x.leaf(5, 2), 1);
    }

    private static void standingInALeaf() {
        CellEvents x = Bounds.eight();
        x.move(0, 7);
        Due.same("where it was", x.leaf(0, 3), 0);
        Due.same("where it is", x.leaf(7, 3), 2);
        x.leave(0);
        x.leave(7);
        Due.same("gone", x.leaf(7, 3), 0);
    }

    private static void valuesOfAnEmptyLeaf() {
        for (int leaf = 0; leaf <= 15; leaf++) {
            for (int what = 0; what < 4; what++) {
                Due.same("leaf " + leaf + ", what " + what, new CellEvents().leaf(leaf, what), 0);
                boolean nobody = leaf > 7 || what == 1 || what == 2;
                Due.same("leaf " + leaf + " of eight, what " + what, Bounds.eight().leaf(leaf, what), nobody ? 0 : 1);
            }
        }
    }

    private static void whole() {
        Bounds.promise(14, "0 subscribers, 1 of these those that are there", ValueBoundsTest::subscribersInAll);
        Bounds.promise(14, "2 events, 3 tick, 4 to 7 the settings 0 to 3", ValueBoundsTest::eventsTickAndSettings);
        Bounds.promise(14, "8 events in all inboxes, 9 deliveries, in all, 10 dropped ones, in all, 11 lost ones, in"
            + " all", ValueBoundsTest::eventsInAll);
        Bounds.promise(14, "12 handovers, in all", ValueBoundsTest::handoversInAll);
        Bounds.promise(14, "13 length of the command text", ValueBoundsTest::lengthOfTheText);
        Bounds.promise(14, "Returns that value.", ValueBoundsTest::valuesOfNothing);
        Bounds.promise(14, NO_VALUE, () -> {
            for (int bad : Bounds.outside(0, 13)) {
                Bounds.badArgument("what " + bad, Bounds::busy, x -> x.whole(bad));
            }
        });
    }

    private static void subscribersInAll() {
        CellEvents x = Bounds.eight();
        for (int gone = 0; gone < 8; gone++) {
            Due.same("those that are there", x.whole(1), 8 - gone);
            x.leave(gone);
            Due.same("subscribers", x.whole(0), 8);
        }
        Due.same("all are gone", x.whole(1), 0);
    }

    private static void eventsTickAndSettings() {
        CellEvents x = Bounds.sixty();
        x.pass(50);
        int[] most = {9, 9, 9, 20};
        for (int what = 0; what < 4; what++) {
            x.set(what, most[what]);
            Due.same("setting " + what, x.whole(4 + what), most[what]);
        }
        Due.same("events", x.whole(2), 60);
        Due.same("tick", x.whole(3), 50);
    }

    private static void sameSums(String when, CellEvents x, int... due) {
        for (int k = 0; k < 4; k++) {
            Due.same(when + ", whole " + (8 + k), x.whole(8 + k), due[k]);
        }
    }

    private static void eventsInAll() {
        CellEvents x = Bounds.waiting(13);
        x.subscribe(0, 2, 6);
        x.publish(6, 2, 0);
        sameSums("before", x, 13, 0, 1, 0);
        x.pass(1);
        sameSums("after a tick", x, 10, 3, 1, 0);
        x.leave(0);
        sameSums("after one left", x, 0, 3, 1, 10);
        x.leave(1);
        sameSums("after both left", x, 0, 3, 1, 10);
    }

    private static void handoversInAll() {
        CellEvents x = Bounds.stays(12);
        x.subscribe(1, 2, 0);
        x.move(1, 1);
        x.pass(1);
        Due.same("eleven and one", x.whole(12), 12);
        x.leave(0);
        x.leave(1);
        Due.same("of those that are gone, too", x.whole(12), 12);
    }

    private static void lengthOfTheText() {
        CellEvents x = new CellEvents();
        for (int length = 0; length <= 150; length++) {
            Due.same("length", x.whole(13), length);
            if (length < 150) {
                x.type(length % 128);
            }
        }
    }

    private static void valuesOfNothing() {
        int[] due = {0, 0, 0, 0, 3, 2, 2, 8, 0, 0, 0, 0, 0, 0};
        for (int what = 0; what < 14; what++) {
            Due.same("what " + what, new CellEvents().whole(what), due[what]);
        }
    }
}
