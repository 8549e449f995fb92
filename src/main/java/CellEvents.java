/**
 * Events that are routed by cells of a map to subscribers who move.
 *
 * A World is the whole state but the command text. Every change is asked for by a kind of action with
 * up to three numbers, so that the public calls and the commands of a text take the same way: first the
 * World tells what stands against the action, and only if nothing does it is performed. All rows are
 * made with the object and used again; no call makes an object, but for an exception.
 */
public final class CellEvents {
    public static final int NONE = -1;

    private static final int LEAVES = 16;
    private static final int COLUMNS = 4;
    private static final int LEVELS = 3;
    private static final int SORTS = 3;
    private static final int SUBSCRIBER_LIMIT = 8;
    private static final int EVENT_LIMIT = 60;
    private static final int INBOX_LIMIT = 12;
    private static final int STAY_LIMIT = 10;
    private static final int UNDO_LIMIT = 4;
    private static final int TEXT_LIMIT = 150;
    private static final int BYTE_VALUES = 128;
    private static final int PASS_LIMIT = 50;
    private static final int LAST_TICK = 9999;
    private static final int LONGEST_WAIT = 200;

    private static final int WALKER = 0;
    private static final int POST = 2;

    private static final int DWELL = 0;
    private static final int CAPACITY = 1;
    private static final int HANDOVER = 2;
    private static final int LATENESS = 3;
    private static final int SETTINGS = 4;
    private static final int[] SMALLEST_SETTING = {0, 1, 0, 0};
    private static final int[] LARGEST_SETTING = {9, 9, 9, 20};

    private static final int SUBSCRIBER_VALUES = 12;
    private static final int STAY_VALUES = 3;
    private static final int EVENT_VALUES = 7;
    private static final int LEAF_VALUES = 4;
    private static final int WHOLE_VALUES = 14;
    private static final int TEXT_LENGTH_VALUE = 13;

    // What stands against a call: nothing, or the exception that it throws.
    private static final int NOTHING = 0;
    private static final int NO_SUCH_INDEX = 1;
    private static final int BAD_ARGUMENT = 2;
    private static final int BAD_STATE = 3;

    // The kinds of action; those below COMMAND_KINDS have a word in the command text.
    private static final int JOIN = 0;
    private static final int GO = 1;
    private static final int QUIT = 2;
    private static final int EVENT = 3;
    private static final int LATE = 4;
    private static final int SET = 5;
    private static final int TICKS = 6;
    private static final int COMMAND_KINDS = 7;
    private static final int RELEVEL = 7;

    private static final int FIRST_HASH = 18526;
    private static final int FAULT_BASE = -10;

    private final World now;
    private final World trial;
    private final UndoStack saved;
    private final CommandText commands;

    public CellEvents() {
        now = new World();
        trial = new World();
        saved = new UndoStack();
        commands = new CommandText();
    }

    // ---- subscribers

    public int subscribe(int sort, int level, int position)
            throws IndexOutOfBoundsException, IllegalArgumentException, IllegalStateException {
        return act(JOIN, sort, level, position);
    }

    public int move(int subscriber, int position) throws IndexOutOfBoundsException, IllegalStateException {
        return act(GO, subscriber, position, 0);
    }

    public int leave(int subscriber) throws IndexOutOfBoundsException, IllegalStateException {
        return act(QUIT, subscriber, 0, 0);
    }

    public int setLevel(int subscriber, int level) throws IndexOutOfBoundsException, IllegalArgumentException {
        return act(RELEVEL, subscriber, level, 0);
    }

    public int set(int what, int value) throws IllegalArgumentException {
        return act(SET, what, value, 0);
    }

    // ---- events and ticks

    public int publish(int leaf, int level, int late)
            throws IndexOutOfBoundsException, IllegalArgumentException, IllegalStateException {
        return act(LATE, leaf, level, late);
    }

    public int pass(int ticks) throws IllegalArgumentException, IllegalStateException {
        return act(TICKS, ticks, 0, 0);
    }

    // ---- values

    public int subscriber(int subscriber, int what) throws IndexOutOfBoundsException, IllegalArgumentException {
        needIndex(now.isSubscriber(subscriber));
        needArgument(isBelow(what, SUBSCRIBER_VALUES));
        return now.subscribers[subscriber].valueOf(what);
    }

    public int stay(int subscriber, int index, int what) throws IndexOutOfBoundsException, IllegalArgumentException {
        needIndex(now.isSubscriber(subscriber));
        needArgument(index >= 0 && isBelow(what, STAY_VALUES));
        return now.subscribers[subscriber].stays.valueOf(index, what);
    }

    public int waiting(int subscriber, int index) throws IndexOutOfBoundsException, IllegalArgumentException {
        needIndex(now.isSubscriber(subscriber));
        needArgument(index >= 0);
        return now.subscribers[subscriber].inbox.eventAt(index);
    }

    public int event(int event, int what) throws IndexOutOfBoundsException, IllegalArgumentException {
        needIndex(isBelow(event, now.log.count));
        needArgument(isBelow(what, EVENT_VALUES));
        return now.valueOfEvent(event, what);
    }

    public int leaf(int leaf, int what) throws IndexOutOfBoundsException, IllegalArgumentException {
        needIndex(isBelow(leaf, LEAVES));
        needArgument(isBelow(what, LEAF_VALUES));
        return now.valueOfLeaf(leaf, what);
    }

    public int whole(int what) throws IllegalArgumentException {
        needArgument(isBelow(what, WHOLE_VALUES));
        return valueOfWhole(what);
    }

    // ---- what if, which changes nothing

    public int wouldReach(int leaf, int level, int late) throws IndexOutOfBoundsException, IllegalArgumentException {
        needIndex(isBelow(leaf, LEAVES));
        needArgument(isBelow(level, LEVELS) && late >= 0);
        return now.isTooLate(late) ? NONE : now.reachedBy(leaf, level, now.tick - late);
    }

    public int reason(int subscriber, int leaf, int level) throws IndexOutOfBoundsException, IllegalArgumentException {
        needIndex(now.isSubscriber(subscriber) && isBelow(leaf, LEAVES));
        needArgument(isBelow(level, LEVELS));
        return now.subscribers[subscriber].reasonAgainst(areaOf(leaf, level));
    }

    public int servedIn(int subscriber) throws IndexOutOfBoundsException {
        needIndex(now.isSubscriber(subscriber));
        return now.ticksUntilServed(subscriber);
    }

    public int emptyIn(int subscriber) throws IndexOutOfBoundsException {
        needIndex(now.isSubscriber(subscriber));
        trial.copyFrom(now);
        return trial.passUntilEmpty(subscriber);
    }

    public int covered(int subscriber) throws IndexOutOfBoundsException {
        needIndex(now.isSubscriber(subscriber));
        return now.subscribers[subscriber].coverage();
    }

    public int busiest() {
        return now.busiestLeaf();
    }

    // ---- command text, undo and checksum

    public int type(int value) throws IllegalArgumentException, IllegalStateException {
        needArgument(isBelow(value, BYTE_VALUES));
        needState(!commands.isFull());
        return commands.append(value);
    }

    public int clearCommands() {
        return commands.clear();
    }

    public int runCommands() {
        int fault = commands.findFault();
        if (fault != NONE) {
            return FAULT_BASE - fault;
        }
        saved.keep(now);
        return carryOutCommands();
    }

    public int undo() throws IllegalStateException {
        needState(saved.count > 0);
        return saved.restoreTo(now);
    }

    public long digest() {
        long hash = mix(FIRST_HASH, saved.count);
        for (int what = 0; what < WHOLE_VALUES; what++) {
            hash = mix(hash, valueOfWhole(what));
        }
        for (int number = 0; number < now.subscriberCount; number++) {
            hash = mixSubscriber(hash, number);
        }
        for (int number = 0; number < now.log.count; number++) {
            for (int what = 0; what < EVENT_VALUES; what++) {
                hash = mix(hash, now.valueOfEvent(number, what));
            }
        }
        for (int number = 0; number < LEAVES; number++) {
            for (int what = 0; what < LEAF_VALUES; what++) {
                hash = mix(hash, now.valueOfLeaf(number, what));
            }
        }
        return mix(hash, now.busiestLeaf());
    }

    private long mixSubscriber(long before, int number) {
        Subscriber one = now.subscribers[number];
        long hash = before;
        for (int what = 0; what < SUBSCRIBER_VALUES; what++) {
            hash = mix(hash, one.valueOf(what));
        }
        for (int index = 0; index < one.stays.count; index++) {
            for (int what = 0; what < STAY_VALUES; what++) {
                hash = mix(hash, one.stays.valueOf(index, what));
            }
        }
        for (int index = 0; index < one.inbox.size; index++) {
            hash = mix(hash, one.inbox.eventAt(index));
        }
        hash = mix(hash, now.ticksUntilServed(number));
        return mix(hash, one.coverage());
    }

    private static long mix(long hash, int value) {
        return 31 * hash + value;
    }

    private int valueOfWhole(int what) {
        return what == TEXT_LENGTH_VALUE ? commands.length : now.valueOfWhole(what);
    }

    private int act(int kind, int first, int second, int third) {
        int against = now.against(kind, first, second, third);
        needIndex(against != NO_SUCH_INDEX);
        needArgument(against != BAD_ARGUMENT);
        needState(against != BAD_STATE);
        saved.keep(now);
        return now.perform(kind, first, second, third);
    }

    private int carryOutCommands() {
        commands.rewind();
        int done = 0;
        while (done < TEXT_LIMIT && commands.readNext()) {
            int first = commands.numbers[0];
            int second = commands.numbers[1];
            int third = commands.numbers[2];
            if (now.against(commands.kind, first, second, third) != NOTHING) {
                return done;
            }
            now.perform(commands.kind, first, second, third);
            done++;
        }
        return done;
    }

    private static void needIndex(boolean holds) {
        if (!holds) {
            throw new IndexOutOfBoundsException();
        }
    }

    private static void needArgument(boolean holds) {
        if (!holds) {
            throw new IllegalArgumentException();
        }
    }

    private static void needState(boolean holds) {
        if (!holds) {
            throw new IllegalStateException();
        }
    }

    private static boolean isBelow(int value, int limit) {
        return value >= 0 && value < limit;
    }

    /** The set of the leaves of an area, bit l for the leaf l. */
    private static int areaOf(int leaf, int level) {
        if (level == 0) {
            return (1 << LEAVES) - 1;
        }
        if (level == 2) {
            return 1 << leaf;
        }
        int column = leaf % COLUMNS / 2 * 2;
        int row = leaf / COLUMNS / 2 * 2;
        int pair = 3 << column;
        return (pair | pair << COLUMNS) << COLUMNS * row;
    }

    /** The whole state but the command text. */
    private static final class World {
        final int[] settings = {3, 2, 2, 8};
        final Subscriber[] subscribers = new Subscriber[SUBSCRIBER_LIMIT];
        final EventLog log = new EventLog();
        final int[] deliveredIn = new int[LEAVES];
        // Counts anew in each tick, so it is no part of the state that is copied.
        final int[] deliveredInTick = new int[LEAVES];
        int subscriberCount;
        int tick;

        World() {
            for (int number = 0; number < SUBSCRIBER_LIMIT; number++) {
                subscribers[number] = new Subscriber();
            }
        }

        void copyFrom(World other) {
            System.arraycopy(other.settings, 0, settings, 0, SETTINGS);
            // The unused ones of subscribers and events are copied too: what an undo takes back must be as new.
            for (int number = 0; number < SUBSCRIBER_LIMIT; number++) {
                subscribers[number].copyFrom(other.subscribers[number]);
            }
            log.copyFrom(other.log);
            System.arraycopy(other.deliveredIn, 0, deliveredIn, 0, LEAVES);
            subscriberCount = other.subscriberCount;
            tick = other.tick;
        }

        boolean isSubscriber(int number) {
            return isBelow(number, subscriberCount);
        }

        int against(int kind, int first, int second, int third) {
            switch (kind) {
                case JOIN:
                    return againstJoining(first, second, third);
                case GO:
                    return againstMoving(first, second);
                case QUIT:
                    return againstLeaving(first);
                case EVENT:
                    return againstPublishing(first, second, 0);
                case LATE:
                    return againstPublishing(first, second, third);
                case SET:
                    return againstSetting(first, second);
                case TICKS:
                    return againstPassing(first);
                case RELEVEL:
                    return againstRelevelling(first, second);
                default:
                    return BAD_ARGUMENT;
            }
        }

        /** Does what nothing stands against. */
        int perform(int kind, int first, int second, int third) {
            switch (kind) {
                case JOIN:
                    return join(first, second, third);
                case GO:
                    return subscribers[first].goTo(second, tick);
                case QUIT:
                    return subscribers[first].quit(tick);
                case EVENT:
                    return publishEvent(first, second, 0);
                case LATE:
                    return publishEvent(first, second, third);
                case SET:
                    return changeSetting(first, second);
                case TICKS:
                    return passTicks(first);
                case RELEVEL:
                    return subscribers[first].relevel(second);
                default:
                    return NONE;
            }
        }

        private int againstJoining(int sort, int level, int position) {
            if (!isBelow(position, LEAVES)) {
                return NO_SUCH_INDEX;
            }
            if (!isBelow(sort, SORTS) || !isBelow(level, LEVELS)) {
                return BAD_ARGUMENT;
            }
            return subscriberCount < SUBSCRIBER_LIMIT ? NOTHING : BAD_STATE;
        }

        private int join(int sort, int level, int position) {
            int number = subscriberCount;
            subscribers[number].begin(sort, level, position, tick);
            subscriberCount++;
            return number;
        }

        private int againstMoving(int number, int position) {
            if (!isSubscriber(number) || !isBelow(position, LEAVES)) {
                return NO_SUCH_INDEX;
            }
            return subscribers[number].canGoTo(position) ? NOTHING : BAD_STATE;
        }

        private int againstLeaving(int number) {
            if (!isSubscriber(number)) {
                return NO_SUCH_INDEX;
            }
            return subscribers[number].there ? NOTHING : BAD_STATE;
        }

        private int againstRelevelling(int number, int level) {
            if (!isSubscriber(number)) {
                return NO_SUCH_INDEX;
            }
            return isBelow(level, LEVELS) ? NOTHING : BAD_ARGUMENT;
        }

        private int againstSetting(int what, int value) {
            if (!isBelow(what, SETTINGS)) {
                return BAD_ARGUMENT;
            }
            boolean inRange = value >= SMALLEST_SETTING[what] && value <= LARGEST_SETTING[what];
            return inRange ? NOTHING : BAD_ARGUMENT;
        }

        private int changeSetting(int what, int value) {
            int before = settings[what];
            settings[what] = value;
            return before;
        }

        private int againstPublishing(int leaf, int level, int late) {
            if (!isBelow(leaf, LEAVES)) {
                return NO_SUCH_INDEX;
            }
            if (!isBelow(level, LEVELS) || late < 0) {
                return BAD_ARGUMENT;
            }
            return log.count < EVENT_LIMIT && !isTooLate(late) ? NOTHING : BAD_STATE;
        }

        boolean isTooLate(int late) {
            return late > settings[LATENESS] || late > tick;
        }

        private int publishEvent(int leaf, int level, int late) {
            int time = tick - late;
            int reached = reachedBy(leaf, level, time);
            int event = log.add(leaf, level, time, tick, reached);
            for (int number = 0; number < subscriberCount; number++) {
                if ((reached >> number & 1) == 1) {
                    subscribers[number].receive(event);
                }
            }
            return event;
        }

        int reachedBy(int leaf, int level, int time) {
            int area = areaOf(leaf, level);
            int reached = 0;
            for (int number = 0; number < subscriberCount; number++) {
                if (subscribers[number].getsFrom(area, time)) {
                    reached |= 1 << number;
                }
            }
            return reached;
        }

        private int againstPassing(int ticks) {
            if (ticks < 1 || ticks > PASS_LIMIT) {
                return BAD_ARGUMENT;
            }
            return tick + ticks <= LAST_TICK ? NOTHING : BAD_STATE;
        }

        private int passTicks(int ticks) {
            int delivered = 0;
            for (int passed = 0; passed < ticks; passed++) {
                delivered += passTick();
            }
            return delivered;
        }

        private int passTick() {
            for (int number = 0; number < subscriberCount; number++) {
                Subscriber one = subscribers[number];
                if (one.isDue(tick, settings[DWELL])) {
                    one.handOver(tick, settings[HANDOVER]);
                }
            }
            for (int leaf = 0; leaf < LEAVES; leaf++) {
                deliveredInTick[leaf] = 0;
            }
            int delivered = 0;
            for (int number = 0; number < subscriberCount; number++) {
                delivered += deliverTo(number);
            }
            tick++;
            return delivered;
        }

        private int deliverTo(int number) {
            Subscriber one = subscribers[number];
            if (!one.there || tick < one.handoverUntil) {
                return 0;
            }
            int room = settings[CAPACITY] - deliveredInTick[one.serving];
            int delivered = Math.min(one.inbox.size, room);
            for (int index = 0; index < delivered; index++) {
                log.markDelivered(one.inbox.eventAt(index), number);
            }
            one.inbox.removeOldest(delivered);
            one.delivered += delivered;
            deliveredInTick[one.serving] += delivered;
            deliveredIn[one.serving] += delivered;
            return delivered;
        }

        int ticksUntilServed(int number) {
            Subscriber one = subscribers[number];
            if (!one.there) {
                return NONE;
            }
            if (one.position == one.serving) {
                return 0;
            }
            int due = one.cameAt + one.dwellTime(settings[DWELL]);
            return Math.max(due, tick) - tick + 1;
        }

        /** Lets ticks pass, beyond the last one too, and tells how many it took. */
        int passUntilEmpty(int number) {
            Inbox inbox = subscribers[number].inbox;
            for (int passed = 0; passed < LONGEST_WAIT; passed++) {
                if (inbox.size == 0) {
                    return passed;
                }
                passTick();
            }
            return inbox.size == 0 ? LONGEST_WAIT : NONE;
        }

        int busiestLeaf() {
            int busiest = NONE;
            int most = 0;
            for (int leaf = 0; leaf < LEAVES; leaf++) {
                int waiting = waitingIn(leaf);
                if (waiting > most) {
                    busiest = leaf;
                    most = waiting;
                }
            }
            return busiest;
        }

        int valueOfEvent(int event, int what) {
            return what < EVENT_VALUES - 1 ? log.valueOf(event, what) : inboxesWith(event);
        }

        private int inboxesWith(int event) {
            int found = 0;
            for (int number = 0; number < subscriberCount; number++) {
                if (subscribers[number].inbox.holds(event)) {
                    found++;
                }
            }
            return found;
        }

        int valueOfLeaf(int leaf, int what) {
            switch (what) {
                case 0:
                    return servedBy(leaf);
                case 1:
                    return deliveredIn[leaf];
                case 2:
                    return waitingIn(leaf);
                default:
                    return standingIn(leaf);
            }
        }

        private int servedBy(int leaf) {
            int found = 0;
            for (int number = 0; number < subscriberCount; number++) {
                Subscriber one = subscribers[number];
                if (one.there && one.serving == leaf) {
                    found++;
                }
            }
            return found;
        }

        private int standingIn(int leaf) {
            int found = 0;
            for (int number = 0; number < subscriberCount; number++) {
                Subscriber one = subscribers[number];
                if (one.there && one.position == leaf) {
                    found++;
                }
            }
            return found;
        }

        private int waitingIn(int leaf) {
            int sum = 0;
            for (int number = 0; number < subscriberCount; number++) {
                // One that is gone has an empty inbox, so it adds nothing.
                if (subscribers[number].serving == leaf) {
                    sum += subscribers[number].inbox.size;
                }
            }
            return sum;
        }

        int valueOfWhole(int what) {
            switch (what) {
                case 0:
                    return subscriberCount;
                case 1:
                    return sumOf(Subscriber.THERE);
                case 2:
                    return log.count;
                case 3:
                    return tick;
                case 4:
                case 5:
                case 6:
                case 7:
                    return settings[what - 4];
                case 8:
                    return sumOf(Subscriber.WAITING);
                case 9:
                    return sumOf(Subscriber.DELIVERED);
                case 10:
                    return sumOf(Subscriber.DROPPED);
                case 11:
                    return sumOf(Subscriber.LOST);
                default:
                    return sumOf(Subscriber.HANDOVERS);
            }
        }

        private int sumOf(int what) {
            int sum = 0;
            for (int number = 0; number < subscriberCount; number++) {
                sum += subscribers[number].valueOf(what);
            }
            return sum;
        }
    }

    private static final class Subscriber {
        static final int THERE = 5;
        static final int WAITING = 6;
        static final int DELIVERED = 8;
        static final int DROPPED = 9;
        static final int HANDOVERS = 10;
        // Behind the values that the public call tells; the sum over all subscribers alone is told.
        static final int LOST = 12;

        final Stays stays = new Stays();
        final Inbox inbox = new Inbox();
        int sort;
        int level;
        int position;
        int cameAt;
        int serving;
        boolean there;
        int routed;
        int delivered;
        int dropped;
        int lost;
        int handovers;
        int handoverUntil;

        void copyFrom(Subscriber other) {
            stays.copyFrom(other.stays);
            inbox.copyFrom(other.inbox);
            sort = other.sort;
            level = other.level;
            position = other.position;
            cameAt = other.cameAt;
            serving = other.serving;
            there = other.there;
            routed = other.routed;
            delivered = other.delivered;
            dropped = other.dropped;
            lost = other.lost;
            handovers = other.handovers;
            handoverUntil = other.handoverUntil;
        }

        void begin(int itsSort, int itsLevel, int leaf, int tick) {
            sort = itsSort;
            level = itsLevel;
            position = leaf;
            cameAt = tick;
            serving = leaf;
            there = true;
            stays.open(leaf, tick);
        }

        boolean canGoTo(int leaf) {
            return there && sort != POST && position != leaf;
        }

        int goTo(int leaf, int tick) {
            int before = position;
            position = leaf;
            cameAt = tick;
            return before;
        }

        int quit(int tick) {
            int losing = inbox.size;
            inbox.removeOldest(losing);
            lost += losing;
            stays.close(tick);
            there = false;
            return losing;
        }

        int relevel(int newLevel) {
            int before = level;
            level = newLevel;
            return before;
        }

        int dwellTime(int dwell) {
            return sort == WALKER ? dwell : dwell / 2;
        }

        boolean isDue(int tick, int dwell) {
            return there && position != serving && tick - cameAt >= dwellTime(dwell);
        }

        void handOver(int tick, int handover) {
            stays.close(tick);
            stays.open(position, tick);
            serving = position;
            handovers++;
            if (inbox.size > 0) {
                handoverUntil = tick + handover;
            }
        }

        boolean getsFrom(int area, int time) {
            int leaf = stays.leafAt(time);
            return there && leaf != NONE && (areaOf(leaf, level) & area) != 0;
        }

        void receive(int event) {
            routed++;
            if (inbox.isFull()) {
                dropped++;
            } else {
                inbox.add(event);
            }
        }

        int reasonAgainst(int area) {
            if (!there) {
                return 1;
            }
            if ((areaOf(serving, level) & area) == 0) {
                return (areaOf(position, level) & area) != 0 ? 2 : 3;
            }
            return inbox.isFull() ? 4 : 0;
        }

        int coverage() {
            return there ? areaOf(serving, level) : 0;
        }

        int valueOf(int what) {
            switch (what) {
                case 0:
                    return sort;
                case 1:
                    return level;
                case 2:
                    return position;
                case 3:
                    return cameAt;
                case 4:
                    return serving;
                case THERE:
                    return there ? 1 : 0;
                case WAITING:
                    return inbox.size;
                case 7:
                    return routed;
                case DELIVERED:
                    return delivered;
                case DROPPED:
                    return dropped;
                case HANDOVERS:
                    return handovers;
                case 11:
                    return handoverUntil;
                case LOST:
                    return lost;
                default:
                    return NONE;
            }
        }
    }

    /** The remembered stays of a subscriber, the latest one first. */
    private static final class Stays {
        final int[] leaves = new int[STAY_LIMIT];
        final int[] firsts = new int[STAY_LIMIT];
        // NONE for a stay that goes on.
        final int[] ends = new int[STAY_LIMIT];
        int count;

        void copyFrom(Stays other) {
            System.arraycopy(other.leaves, 0, leaves, 0, STAY_LIMIT);
            System.arraycopy(other.firsts, 0, firsts, 0, STAY_LIMIT);
            System.arraycopy(other.ends, 0, ends, 0, STAY_LIMIT);
            count = other.count;
        }

        void open(int leaf, int tick) {
            for (int index = STAY_LIMIT - 1; index > 0; index--) {
                leaves[index] = leaves[index - 1];
                firsts[index] = firsts[index - 1];
                ends[index] = ends[index - 1];
            }
            leaves[0] = leaf;
            firsts[0] = tick;
            ends[0] = NONE;
            if (count < STAY_LIMIT) {
                count++;
            }
        }

        void close(int tick) {
            ends[0] = tick;
        }

        int leafAt(int time) {
            for (int index = 0; index < count; index++) {
                boolean notOver = ends[index] == NONE || time < ends[index];
                if (time >= firsts[index] && notOver) {
                    return leaves[index];
                }
            }
            return NONE;
        }

        int valueOf(int index, int what) {
            if (index >= count) {
                return NONE;
            }
            if (what == 0) {
                return leaves[index];
            }
            return what == 1 ? firsts[index] : ends[index];
        }
    }

    /** The events that wait for a subscriber, the oldest one first. */
    private static final class Inbox {
        final int[] events = new int[INBOX_LIMIT];
        int size;

        void copyFrom(Inbox other) {
            System.arraycopy(other.events, 0, events, 0, INBOX_LIMIT);
            size = other.size;
        }

        boolean isFull() {
            return size >= INBOX_LIMIT;
        }

        void add(int event) {
            if (size < INBOX_LIMIT) {
                events[size] = event;
                size++;
            }
        }

        void removeOldest(int number) {
            for (int index = number; index < size; index++) {
                events[index - number] = events[index];
            }
            size -= number;
        }

        int eventAt(int index) {
            return index < size ? events[index] : NONE;
        }

        boolean holds(int event) {
            for (int index = 0; index < size; index++) {
                if (events[index] == event) {
                    return true;
                }
            }
            return false;
        }
    }

    private static final class EventLog {
        final int[] leaves = new int[EVENT_LIMIT];
        final int[] levels = new int[EVENT_LIMIT];
        final int[] times = new int[EVENT_LIMIT];
        final int[] published = new int[EVENT_LIMIT];
        final int[] routed = new int[EVENT_LIMIT];
        final int[] delivered = new int[EVENT_LIMIT];
        int count;

        void copyFrom(EventLog other) {
            System.arraycopy(other.leaves, 0, leaves, 0, EVENT_LIMIT);
            System.arraycopy(other.levels, 0, levels, 0, EVENT_LIMIT);
            System.arraycopy(other.times, 0, times, 0, EVENT_LIMIT);
            System.arraycopy(other.published, 0, published, 0, EVENT_LIMIT);
            System.arraycopy(other.routed, 0, routed, 0, EVENT_LIMIT);
            System.arraycopy(other.delivered, 0, delivered, 0, EVENT_LIMIT);
            count = other.count;
        }

        int add(int leaf, int level, int time, int tick, int reached) {
            if (count >= EVENT_LIMIT) {
                return NONE;
            }
            int event = count;
            leaves[event] = leaf;
            levels[event] = level;
            times[event] = time;
            published[event] = tick;
            routed[event] = reached;
            count++;
            return event;
        }

        void markDelivered(int event, int subscriber) {
            if (event >= 0 && event < count) {
                delivered[event] |= 1 << subscriber;
            }
        }

        int valueOf(int event, int what) {
            switch (what) {
                case 0:
                    return leaves[event];
                case 1:
                    return levels[event];
                case 2:
                    return times[event];
                case 3:
                    return published[event];
                case 4:
                    return routed[event];
                default:
                    return delivered[event];
            }
        }
    }

    /** The latest saved states, in a ring: the slots are made once and written over. */
    private static final class UndoStack {
        final World[] slots = new World[UNDO_LIMIT];
        int next;
        int count;

        UndoStack() {
            for (int index = 0; index < UNDO_LIMIT; index++) {
                slots[index] = new World();
            }
        }

        void keep(World world) {
            slots[next].copyFrom(world);
            next = (next + 1) % UNDO_LIMIT;
            count = Math.min(count + 1, UNDO_LIMIT);
        }

        int restoreTo(World world) {
            next = (next + UNDO_LIMIT - 1) % UNDO_LIMIT;
            world.copyFrom(slots[next]);
            count--;
            return count;
        }
    }

    /** The command text, and a reader that takes one command of it after another. */
    private static final class CommandText {
        static final int NUMBERS = 3;
        static final int DIGITS = 3;

        final int[] text = new int[TEXT_LIMIT];
        int length;

        // The reader: where it stands, the command that it read, and the fault that stopped it, or NONE.
        int at;
        int kind;
        final int[] numbers = new int[NUMBERS];
        int fault;

        boolean isFull() {
            return length >= TEXT_LIMIT;
        }

        int append(int value) {
            if (length < TEXT_LIMIT) {
                text[length] = value;
                length++;
            }
            return length;
        }

        int clear() {
            int before = length;
            length = 0;
            return before;
        }

        int findFault() {
            rewind();
            int read = 0;
            while (read < TEXT_LIMIT && readNext()) {
                read++;
            }
            return fault;
        }

        void rewind() {
            at = 0;
            fault = NONE;
        }

        /** Tells whether there was one more command; there is none at the end and from a fault on. */
        boolean readNext() {
            skipSpaces();
            if (at >= length) {
                return false;
            }
            return readWord() && readNumbers() && readSemicolon();
        }

        private boolean failAt(int index) {
            fault = index;
            return false;
        }

        private boolean isAt(char sign) {
            return at < length && text[at] == sign;
        }

        private boolean isWithin(char lowest, char highest) {
            return at < length && text[at] >= lowest && text[at] <= highest;
        }

        private void skipSpaces() {
            while (at < length && text[at] == ' ') {
                at++;
            }
        }

        private boolean readWord() {
            int start = at;
            while (at < length && isWithin('a', 'z')) {
                at++;
            }
            kind = kindOf(start, at);
            // Without a letter this is the byte that cannot begin a command.
            return kind != NONE || failAt(start);
        }

        private int kindOf(int from, int to) {
            for (int candidate = 0; candidate < COMMAND_KINDS; candidate++) {
                if (stands(wordOf(candidate), from, to)) {
                    return candidate;
                }
            }
            return NONE;
        }

        private boolean stands(String word, int from, int to) {
            if (word.length() != to - from) {
                return false;
            }
            for (int index = 0; index < word.length(); index++) {
                if (text[from + index] != word.charAt(index)) {
                    return false;
                }
            }
            return true;
        }

        private boolean readNumbers() {
            int wanted = numbersOf(kind);
            for (int index = 0; index < NUMBERS; index++) {
                numbers[index] = 0;
                if (index < wanted && !readNumber(index)) {
                    return false;
                }
            }
            return true;
        }

        private boolean readNumber(int index) {
            if (!isAt(' ')) {
                return failAt(at);
            }
            skipSpaces();
            int digits = 0;
            int value = 0;
            while (digits < DIGITS && isWithin('0', '9')) {
                value = 10 * value + text[at] - '0';
                digits++;
                at++;
            }
            numbers[index] = value;
            return digits > 0 || failAt(at);
        }

        private boolean readSemicolon() {
            skipSpaces();
            if (!isAt(';')) {
                return failAt(at);
            }
            at++;
            return true;
        }

        private static String wordOf(int kind) {
            switch (kind) {
                case JOIN:
                    return "join";
                case GO:
                    return "go";
                case QUIT:
                    return "quit";
                case EVENT:
                    return "event";
                case LATE:
                    return "late";
                case SET:
                    return "set";
                default:
                    return "ticks";
            }
        }

        private static int numbersOf(int kind) {
            switch (kind) {
                case JOIN:
                case LATE:
                    return 3;
                case GO:
                case EVENT:
                case SET:
                    return 2;
                default:
                    return 1;
            }
        }
    }
}
