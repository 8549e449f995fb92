/** Each sentence that names a boundary case, of promises 1 to 6. */
final class SubscriberBoundsTest {
    private static final String SETTINGS = "0 dwell (0 to 9; 3 at first), 1 capacity of each leaf (1 to 9; 2 at first),"
        + " 2 handover (0 to 9; 2 at first), 3 lateness (0 to 20; 8 at first)";
    private static final int[] LEAST = {0, 1, 0, 0};
    private static final int[] MOST = {9, 9, 9, 20};

    private SubscriberBoundsTest() {
    }

    static void run() {
        newObject();
        subscribe();
        move();
        leave();
        setLevel();
        set();
    }

    private static void newObject() {
        Bounds.promise(1, "Creates a map without subscribers and events, at tick 0", SubscriberBoundsTest::nothingYet);
        Bounds.promise(1, SETTINGS, SubscriberBoundsTest::settingsAtFirst);
        Bounds.promise(1, "an empty command text and an empty undo stack", SubscriberBoundsTest::emptyTextAndStack);
        Bounds.promise(1, "An object is used for at most 512 calls after it has been made",
            SubscriberBoundsTest::lastCallThatCounts);
    }

    private static void nothingYet() {
        CellEvents x = new CellEvents();
        for (int what : new int[] {0, 1, 2, 3, 8, 9, 10, 11, 12}) {
            Due.same("whole(" + what + ")", x.whole(what), 0);
        }
        Bounds.noIndex("subscriber(0, 0)", CellEvents::new, y -> y.subscriber(0, 0));
        Bounds.noIndex("event(0, 0)", CellEvents::new, y -> y.event(0, 0));
    }

    private static void settingsAtFirst() {
        CellEvents x = new CellEvents();
        int[] due = {3, 2, 2, 8};
        for (int what = 0; what < 4; what++) {
            Due.same("setting " + what, x.whole(4 + what), due[what]);
        }
    }

    private static void emptyTextAndStack() {
        Due.same("length", new CellEvents().whole(13), 0);
        Due.same("clearCommands()", new CellEvents().clearCommands(), 0);
        Due.same("runCommands()", new CellEvents().runCommands(), 0);
        Bounds.badState("undo()", CellEvents::new, CellEvents::undo);
    }

    private static void lastCallThatCounts() {
        CellEvents x = new CellEvents();
        for (int k = 0; k < 255; k++) {
            x.set(3, k % 21);
            x.pass(1);
        }
        Due.same("call 511", x.set(3, 20), 254 % 21);
        Due.same("call 512", x.whole(3), 255);
        CellEvents y = new CellEvents();
        for (int call = 1; call <= 511; call++) {
            y.set(0, call % 10);
        }
        Due.same("call 512, an undo", y.undo(), 3);
    }

    private static void subscribe() {
        Bounds.promise(2, "There are at most 8 subscribers, numbered from 0.", SubscriberBoundsTest::eightAtMost);
        Bounds.promise(2, "served by the leaf of its position from this tick on", SubscriberBoundsTest::fromThisTickOn);
        Bounds.promise(2, "a tick up to which it is in handover (0 at first)", SubscriberBoundsTest::noHandoverAtFirst);
        Bounds.promise(2, "`sort`: 0 walker, 1 car, 2 post", SubscriberBoundsTest::eachSort);
        Bounds.promise(2, "`level`: 0 to 2", SubscriberBoundsTest::eachLevel);
        Bounds.promise(2, "`position`: a leaf, 0 to 15", SubscriberBoundsTest::eachLeaf);
        Bounds.promise(2, "Returns the number of the subscriber.", SubscriberBoundsTest::numbersOfGoneOnesStay);
        Bounds.promise(2, "Throws `IndexOutOfBoundsException` if position is no leaf",
            SubscriberBoundsTest::subscribeInNoLeaf);
        Bounds.promise(2, "Throws `IllegalArgumentException` if sort or level is out of range",
            SubscriberBoundsTest::subscribeOutOfRange);
        Bounds.promise(2, "Throws `IllegalStateException` if there are 8 subscribers",
            SubscriberBoundsTest::subscribeANinth);
        Bounds.promise(2, Bounds.FIRST_LISTED, SubscriberBoundsTest::subscribeRefusedForMore);
    }

    private static void eightAtMost() {
        CellEvents x = new CellEvents();
        for (int number = 0; number < 8; number++) {
            Due.same("subscribe", x.subscribe(0, 2, 15 - number), number);
        }
        Due.same("how many", x.whole(0), 8);
        Due.same("the position of the last one", x.subscriber(7, 2), 8);
        Due.same("who gets an event of all leaves", x.wouldReach(0, 0, 0), 255);
    }

    private static void fromThisTickOn() {
        CellEvents x = new CellEvents();
        x.pass(6);
        x.subscribe(0, 2, 9);
        Due.same("came", x.subscriber(0, 3), 6);
        Due.same("first tick", x.stay(0, 0, 1), 6);
        Due.same("an event of this tick", x.wouldReach(9, 2, 0), 1);
        Due.same("an event of the tick before", x.wouldReach(9, 2, 1), 0);
        x.pass(1);
        Due.same("an event of the first tick, a tick later", x.wouldReach(9, 2, 1), 1);
        Due.same("an event of the tick before, a tick later", x.wouldReach(9, 2, 2), 0);
    }

    private static void noHandoverAtFirst() {
        CellEvents x = Bounds.waiting(1);
        Due.same("up to", x.subscriber(0, 11), 0);
        Due.same("delivered in tick 0", x.pass(1), 1);
    }

    private static void eachSort() {
        for (int sort = 0; sort <= 2; sort++) {
            CellEvents x = Bounds.one(sort, 2, 5);
            Due.same("sort", x.subscriber(0, 0), sort);
        }
    }

    private static void eachLevel() {
        int[] due = {0xFFFF, 0x0033, 0x0001};
        for (int level = 0; level <= 2; level++) {
            CellEvents x = Bounds.one(0, level, 0);
            Due.same("level", x.subscriber(0, 1), level);
            Due.same("covered", x.covered(0), due[level]);
        }
    }

    private static void eachLeaf() {
        for (int leaf = 0; leaf <= 15; leaf++) {
            CellEvents x = Bounds.one(0, 2, leaf);
            Due.same("position", x.subscriber(0, 2), leaf);
            Due.same("serving leaf", x.subscriber(0, 4), leaf);
        }
    }

    private static void numbersOfGoneOnesStay() {
        CellEvents x = Bounds.one(0, 2, 5);
        x.leave(0);
        Due.same("the next number", x.subscribe(0, 2, 5), 1);
        Due.same("the one that is gone", x.subscriber(0, 5), 0);
        Due.same("the next one", x.subscriber(1, 5), 1);
    }

    private static void subscribeInNoLeaf() {
        for (int bad : Bounds.outside(0, 15)) {
            Bounds.noIndex("position " + bad, Bounds::busy, x -> x.subscribe(0, 0, bad));
            Bounds.noIndex("position " + bad + ", new", CellEvents::new, x -> x.subscribe(0, 0, bad));
        }
    }

    private static void subscribeOutOfRange() {
        for (int bad : Bounds.outside(0, 2)) {
            Bounds.badArgument("sort " + bad, Bounds::busy, x -> x.subscribe(bad, 0, 0));
            Bounds.badArgument("level " + bad, Bounds::busy, x -> x.subscribe(0, bad, 0));
        }
    }

    private static CellEvents eightThatAreGone() {
        CellEvents x = Bounds.eight();
        for (int number = 0; number < 8; number++) {
            x.leave(number);
        }
        return x;
    }

    private static void subscribeANinth() {
        Bounds.badState("a ninth one", Bounds::eight, x -> x.subscribe(0, 0, 0));
        Bounds.badState("a ninth one, though all are gone", SubscriberBoundsTest::eightThatAreGone,
            x -> x.subscribe(0, 0, 0));
        CellEvents x = Bounds.eight();
        x.undo();
        Due.same("an eighth one again", x.subscribe(0, 0, 0), 7);
    }

    private static void subscribeRefusedForMore() {
        Bounds.noIndex("no leaf, no sort, no level, and full", Bounds::eight, x -> x.subscribe(3, 3, 16));
        Bounds.noIndex("no leaf, no sort", Bounds::busy, x -> x.subscribe(-1, 0, -1));
        Bounds.noIndex("no leaf, and full", Bounds::eight, x -> x.subscribe(0, 0, 16));
        Bounds.badArgument("no sort, and full", Bounds::eight, x -> x.subscribe(3, 0, 0));
        Bounds.badArgument("no level, and full", Bounds::eight, x -> x.subscribe(0, -1, 0));
    }

    private static void move() {
        Bounds.promise(3, "Moves a subscriber to another position, to which it comes at this tick.",
            SubscriberBoundsTest::comesAtThisTick);
        Bounds.promise(3, "Returns the previous position.", SubscriberBoundsTest::previousPosition);
        Bounds.promise(3, "Throws `IndexOutOfBoundsException` if there is no such subscriber or leaf",
            SubscriberBoundsTest::moveOfNobodyOrNowhere);
        Bounds.promise(3, "Throws `IllegalStateException` if it is gone, is a post, or is at this position",
            SubscriberBoundsTest::moveThatCannotBe);
        Bounds.promise(3, "a post does not move", SubscriberBoundsTest::postStays);
        Bounds.promise(3, Bounds.FIRST_LISTED, SubscriberBoundsTest::moveRefusedForMore);
    }

    private static void comesAtThisTick() {
        CellEvents x = Bounds.one(0, 2, 5);
        x.move(0, 6);
        Due.same("at tick 0", x.subscriber(0, 3), 0);
        x.pass(2);
        x.move(0, 7);
        Due.same("at tick 2", x.subscriber(0, 3), 2);
        x.move(0, 5);
        Due.same("back to the serving leaf", x.subscriber(0, 2), 5);
        Due.same("at tick 2", x.subscriber(0, 3), 2);
        Due.same("the serving leaf", x.subscriber(0, 4), 5);
    }

    private static void previousPosition() {
        CellEvents x = Bounds.one(1, 2, 0);
        Due.same("from 0 to 15", x.move(0, 15), 0);
        Due.same("from 15 to 0, which serves it", x.move(0, 0), 15);
        Due.same("from 0 to 1", x.move(0, 1), 0);
    }

    private static void moveOfNobodyOrNowhere() {
        for (int bad : Bounds.outside(0, 3)) {
            Bounds.noIndex("subscriber " + bad, Bounds::busy, x -> x.move(bad, 0));
        }
        for (int bad : Bounds.outside(0, 7)) {
            Bounds.noIndex("subscriber " + bad + " of 8", Bounds::eight, x -> x.move(bad, 0));
        }
        for (int bad : Bounds.outside(0, 15)) {
            Bounds.noIndex("leaf " + bad, Bounds::busy, x -> x.move(0, bad));
        }
        Bounds.noIndex("nobody yet", CellEvents::new, x -> x.move(0, 0));
    }

    private static void moveThatCannotBe() {
        Bounds.badState("gone", Bounds::busy, x -> x.move(3, 1));
        Bounds.badState("a post", Bounds::busy, x -> x.move(2, 1));
        Bounds.badState("at this position", Bounds::busy, x -> x.move(1, 6));
        Bounds.badState("at this position, which does not serve it yet", Bounds::busy, x -> x.move(0, 6));
        Due.same("to the leaf that serves it still", Bounds.busy().move(0, 5), 6);
    }

    private static void postStays() {
        for (int leaf = 0; leaf <= 15; leaf++) {
            int to = leaf;
            Bounds.badState("to " + to, () -> Bounds.one(2, 2, 7), x -> x.move(0, to));
        }
    }

    private static void moveRefusedForMore() {
        for (int bad : new int[] {-1, 16}) {
            Bounds.noIndex("no leaf, and gone", Bounds::busy, x -> x.move(3, bad));
            Bounds.noIndex("no leaf, and a post", Bounds::busy, x -> x.move(2, bad));
            Bounds.noIndex("nobody, and no leaf", Bounds::busy, x -> x.move(4, bad));
        }
    }

    private static void leave() {
        Bounds.promise(4, "the events in its inbox are lost", SubscriberBoundsTest::inboxIsLost);
        Bounds.promise(4, "its stay ends with this tick", SubscriberBoundsTest::stayEnds);
        Bounds.promise(4, "Tells that a subscriber goes for good", SubscriberBoundsTest::goneForGood);
        Bounds.promise(4, "Returns the number of events that are lost.", SubscriberBoundsTest::lostNumber);
        Bounds.promise(4, "Throws `IndexOutOfBoundsException` if there is no such subscriber",
            SubscriberBoundsTest::leaveOfNobody);
        Bounds.promise(4, "Throws `IllegalStateException` if it is gone", SubscriberBoundsTest::leaveTwice);
    }

    private static void inboxIsLost() {
        CellEvents x = Bounds.waiting(3);
        x.subscribe(0, 2, 5);
        x.publish(5, 2, 0);
        x.leave(0);
        Due.same("in its inbox", x.subscriber(0, 6), 0);
        Due.same("the oldest one", x.waiting(0, 0), Bounds.NONE);
        Due.same("lost ones", x.whole(11), 4);
        Due.same("the inbox of the other one", x.subscriber(1, 6), 1);
        Due.same("none is delivered to it", x.pass(9), 1);
        Due.same("delivered to", x.event(3, 5), 2);
        Due.same("it was routed to it", x.event(3, 4), 3);
    }

    private static void stayEnds() {
        CellEvents x = Bounds.one(0, 2, 5);
        x.pass(4);
        Due.same("it goes on", x.stay(0, 0, 2), Bounds.NONE);
        x.leave(0);
        Due.same("it ended", x.stay(0, 0, 2), 4);
        x.pass(1);
        Due.same("a tick later", x.stay(0, 0, 2), 4);
        CellEvents y = Bounds.one(0, 2, 5);
        y.leave(0);
        Due.same("it ended with the tick with which it began", y.stay(0, 0, 2), 0);
    }

    private static void goneForGood() {
        CellEvents x = Bounds.one(0, 0, 5);
        x.move(0, 6);
        x.pass(2);
        x.leave(0);
        Due.same("an event of this tick", x.wouldReach(5, 0, 0), 0);
        Due.same("an event of when it was there", x.wouldReach(5, 0, 1), 0);
        x.pass(9);
        Due.same("its position does not serve it", x.subscriber(0, 4), 5);
        Due.same("handovers", x.subscriber(0, 10), 0);
        Due.same("it is still a subscriber", x.whole(0), 1);
        Due.same("but not there", x.whole(1), 0);
    }

    private static void lostNumber() {
        for (int events = 0; events <= 12; events++) {
            Due.same("with " + events, Bounds.waiting(events).leave(0), events);
        }
        CellEvents x = Bounds.waiting(13);
        Due.same("the one that was dropped is not lost", x.leave(0), 12);
        Due.same("lost ones in all", x.whole(11), 12);
    }

    private static void leaveOfNobody() {
        for (int bad : Bounds.outside(0, 3)) {
            Bounds.noIndex("subscriber " + bad, Bounds::busy, x -> x.leave(bad));
        }
        for (int bad : Bounds.outside(0, 7)) {
            Bounds.noIndex("subscriber " + bad + " of 8", Bounds::eight, x -> x.leave(bad));
        }
        Bounds.noIndex("nobody yet", CellEvents::new, x -> x.leave(0));
    }

    private static void leaveTwice() {
        Bounds.badState("gone", Bounds::busy, x -> x.leave(3));
        Bounds.badState("all gone", SubscriberBoundsTest::eightThatAreGone, x -> x.leave(7));
    }

    private static void setLevel() {
        Bounds.promise(5, "from now on and also for the stays that are remembered",
            SubscriberBoundsTest::levelOfOldStays);
        Bounds.promise(5, "`level`: 0 to 2", SubscriberBoundsTest::eachNewLevel);
        Bounds.promise(5, "Returns the previous level.", SubscriberBoundsTest::previousLevel);
        Bounds.promise(5, "Throws `IndexOutOfBoundsException` if there is no such subscriber",
            SubscriberBoundsTest::setLevelOfNobody);
        Bounds.promise(5, "Throws `IllegalArgumentException` if level is out of range",
            SubscriberBoundsTest::setLevelOutOfRange);
        Bounds.promise(5, Bounds.FIRST_LISTED, SubscriberBoundsTest::setLevelRefusedForMore);
    }

    private static void levelOfOldStays() {
        CellEvents x = Bounds.stays(10);
        // Leaf 0 served it in tick 0, leaf 9 from tick 9 on; the quad of leaf 0 is 0, 1, 4, 5.
        Due.same("leaf 5 in tick 0, level 2", x.wouldReach(5, 2, 10), 0);
        Due.same("leaf 8 now, level 2", x.wouldReach(8, 2, 0), 0);
        x.setLevel(0, 1);
        Due.same("leaf 5 in tick 0, level 1", x.wouldReach(5, 2, 10), 1);
        Due.same("leaf 8 now, level 1", x.wouldReach(8, 2, 0), 1);
        Due.same("leaf 2 in tick 0, level 1", x.wouldReach(2, 2, 10), 0);
        x.setLevel(0, 0);
        Due.same("leaf 15 in tick 0, level 0", x.wouldReach(15, 2, 10), 1);
        CellEvents y = Bounds.stays(11);
        y.setLevel(0, 0);
        Due.same("a stay that is forgotten stays so", y.wouldReach(0, 2, 11), 0);
        Due.same("the oldest that is remembered", y.wouldReach(0, 2, 10), 1);
    }

    private static void eachNewLevel() {
        int[] due = {0xFFFF, 0xCC00, 0x8000};
        CellEvents x = Bounds.one(0, 1, 15);
        for (int level = 0; level <= 2; level++) {
            x.setLevel(0, level);
            Due.same("level", x.subscriber(0, 1), level);
            Due.same("covered", x.covered(0), due[level]);
        }
    }

    private static void previousLevel() {
        CellEvents x = Bounds.one(0, 2, 5);
        Due.same("2 to 0", x.setLevel(0, 0), 2);
        Due.same("0 to 1", x.setLevel(0, 1), 0);
        Due.same("1 to 1", x.setLevel(0, 1), 1);
        x.leave(0);
        Due.same("of one that is gone", x.setLevel(0, 2), 1);
        Due.same("its level", x.subscriber(0, 1), 2);
    }

    private static void setLevelOfNobody() {
        for (int bad : Bounds.outside(0, 3)) {
            Bounds.noIndex("subscriber " + bad, Bounds::busy, x -> x.setLevel(bad, 0));
        }
        for (int bad : Bounds.outside(0, 7)) {
            Bounds.noIndex("subscriber " + bad + " of 8", Bounds::eight, x -> x.setLevel(bad, 0));
        }
        Bounds.noIndex("nobody yet", CellEvents::new, x -> x.setLevel(0, 0));
    }

    private static void setLevelOutOfRange() {
        for (int bad : Bounds.outside(0, 2)) {
            Bounds.badArgument("level " + bad, Bounds::busy, x -> x.setLevel(0, bad));
            Bounds.badArgument("level " + bad + " of one that is gone", Bounds::busy, x -> x.setLevel(3, bad));
        }
    }

    private static void setLevelRefusedForMore() {
        Bounds.noIndex("nobody, no level", Bounds::busy, x -> x.setLevel(4, 3));
        Bounds.noIndex("nobody, no level", Bounds::busy, x -> x.setLevel(-1, -1));
    }

    private static void set() {
        Bounds.promise(6, SETTINGS, SubscriberBoundsTest::settingsInTheirRanges);
        Bounds.promise(6, "Returns the previous value.", SubscriberBoundsTest::previousValue);
        Bounds.promise(6, "Throws `IllegalArgumentException` if what or value is out of range",
            SubscriberBoundsTest::setOutOfRange);
    }

    private static void settingsInTheirRanges() {
        for (int what = 0; what < 4; what++) {
            CellEvents x = new CellEvents();
            x.set(what, MOST[what]);
            Due.same("the most of " + what, x.whole(4 + what), MOST[what]);
            x.set(what, LEAST[what]);
            Due.same("the least of " + what, x.whole(4 + what), LEAST[what]);
        }
    }

    private static void previousValue() {
        int[] first = {3, 2, 2, 8};
        for (int what = 0; what < 4; what++) {
            CellEvents x = new CellEvents();
            Due.same("first, " + what, x.set(what, MOST[what]), first[what]);
            Due.same("most, " + what, x.set(what, LEAST[what]), MOST[what]);
            Due.same("least, " + what, x.set(what, LEAST[what]), LEAST[what]);
        }
    }

    private static void setOutOfRange() {
        for (int bad : Bounds.outside(0, 3)) {
            Bounds.badArgument("what " + bad, Bounds::busy, x -> x.set(bad, 1));
            Bounds.badArgument("what " + bad + ", value -1", Bounds::busy, x -> x.set(bad, -1));
        }
        for (int k = 0; k < 4; k++) {
            int what = k;
            for (int bad : Bounds.outside(LEAST[k], MOST[k])) {
                Bounds.badArgument("set(" + what + ", " + bad + ")", Bounds::busy, x -> x.set(what, bad));
            }
        }
    }
}
