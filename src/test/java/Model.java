import java.util.ArrayDeque;
import java.util.ArrayList;
import java.util.Deque;
import java.util.List;
import java.util.TreeSet;
import java.util.regex.Matcher;
import java.util.regex.Pattern;

/**
 * The document once more, in another way: sets of leaves, lists of all stays, texts by patterns. It
 * answers a call with its number as a text, or with the plain name of the exception.
 */
final class Model {
    private static final String INDEX = "IndexOutOfBoundsException";
    private static final String ARGUMENT = "IllegalArgumentException";
    private static final String STATE = "IllegalStateException";

    private static final class Person {
        int sort;
        int level;
        int position;
        int came;
        boolean gone;
        int until;
        int dropped;
        int handedOver;
        int lost;
        List<int[]> stays = new ArrayList<>();
        List<Integer> inbox = new ArrayList<>();
        List<Integer> routed = new ArrayList<>();
        List<Integer> delivered = new ArrayList<>();

        int serving() {
            return stays.get(stays.size() - 1)[0];
        }

        Person copy() {
            Person p = new Person();
            p.sort = sort;
            p.level = level;
            p.position = position;
            p.came = came;
            p.gone = gone;
            p.until = until;
            p.dropped = dropped;
            p.handedOver = handedOver;
            p.lost = lost;
            for (int[] stay : stays) {
                p.stays.add(stay.clone());
            }
            p.inbox.addAll(inbox);
            p.routed.addAll(routed);
            p.delivered.addAll(delivered);
            return p;
        }
    }

    private static final class Map {
        int[] settings = {3, 2, 2, 8};
        int tick;
        List<Person> people = new ArrayList<>();
        List<int[]> events = new ArrayList<>();
        int[] deliveredIn = new int[16];

        Map copy() {
            Map m = new Map();
            m.settings = settings.clone();
            m.tick = tick;
            for (Person p : people) {
                m.people.add(p.copy());
            }
            for (int[] e : events) {
                m.events.add(e.clone());
            }
            m.deliveredIn = deliveredIn.clone();
            return m;
        }

        int pass() {
            for (Person p : people) {
                int dwell = p.sort == 0 ? settings[0] : settings[0] / 2;
                if (!p.gone && p.position != p.serving() && tick - p.came >= dwell) {
                    p.stays.get(p.stays.size() - 1)[2] = tick;
                    p.stays.add(new int[] {p.position, tick, -1});
                    p.handedOver++;
                    p.until = p.inbox.isEmpty() ? p.until : tick + settings[2];
                }
            }
            int[] used = new int[16];
            int sum = 0;
            for (Person p : people) {
                while (!p.gone && tick >= p.until && !p.inbox.isEmpty() && used[p.serving()] < settings[1]) {
                    p.delivered.add(p.inbox.remove(0));
                    used[p.serving()]++;
                    deliveredIn[p.serving()]++;
                    sum++;
                }
            }
            tick++;
            return sum;
        }
    }

    private Map map = new Map();
    private final Deque<Map> stack = new ArrayDeque<>();
    private final StringBuilder text = new StringBuilder();

    private static TreeSet<Integer> area(int leaf, int level) {
        TreeSet<Integer> set = new TreeSet<>();
        for (int other = 0; other < 16; other++) {
            boolean quad = other % 4 / 2 == leaf % 4 / 2 && other / 4 / 2 == leaf / 4 / 2;
            if (level == 0 || level == 1 && quad || other == leaf) {
                set.add(other);
            }
        }
        return set;
    }

    private static boolean overlap(int leaf, int level, int otherLeaf, int otherLevel) {
        TreeSet<Integer> common = area(leaf, level);
        common.retainAll(area(otherLeaf, otherLevel));
        return !common.isEmpty();
    }

    private static boolean out(int value, int low, int high) {
        return value < low || value > high;
    }

    private boolean nobody(int s) {
        return out(s, 0, map.people.size() - 1);
    }

    private void save() {
        stack.addLast(map.copy());
        if (stack.size() > 4) {
            stack.removeFirst();
        }
    }

    /** The method by its name, with up to three numbers. */
    String call(String name, int a, int b, int c) {
        switch (name) {
            case "subscribe": case "move": case "leave": case "setLevel": case "set": case "publish": case "pass": {
                Map before = map.copy();
                String answer = change(name, a, b, c);
                if (!answer.endsWith("Exception")) {
                    Map after = map;
                    map = before;
                    save();
                    map = after;
                }
                return answer;
            }
            case "type":
                if (out(a, 0, 127)) {
                    return ARGUMENT;
                }
                if (text.length() == 150) {
                    return STATE;
                }
                return "" + text.append((char) a).length();
            case "clearCommands": {
                String length = "" + text.length();
                text.setLength(0);
                return length;
            }
            case "runCommands":
                return runText();
            case "undo":
                if (stack.isEmpty()) {
                    return STATE;
                }
                map = stack.removeLast();
                return "" + stack.size();
            case "digest":
                return "" + digest();
            default:
                return read(name, a, b, c);
        }
    }

    private String change(String name, int a, int b, int c) {
        switch (name) {
            case "subscribe":
                return subscribe(a, b, c);
            case "move":
                return move(a, b);
            case "leave":
                return leave(a);
            case "setLevel": {
                if (nobody(a)) {
                    return INDEX;
                }
                if (out(b, 0, 2)) {
                    return ARGUMENT;
                }
                int before = map.people.get(a).level;
                map.people.get(a).level = b;
                return "" + before;
            }
            case "set": {
                if (out(a, 0, 3) || out(b, a == 1 ? 1 : 0, a == 3 ? 20 : 9)) {
                    return ARGUMENT;
                }
                int before = map.settings[a];
                map.settings[a] = b;
                return "" + before;
            }
            case "publish":
                return publish(a, b, c);
            default: {
                if (out(a, 1, 50)) {
                    return ARGUMENT;
                }
                if (map.tick + a > 9999) {
                    return STATE;
                }
                int sum = 0;
                for (int k = 0; k < a; k++) {
                    sum += map.pass();
                }
                return "" + sum;
            }
        }
    }

    private String subscribe(int sort, int level, int position) {
        if (out(position, 0, 15)) {
            return INDEX;
        }
        if (out(sort, 0, 2) || out(level, 0, 2)) {
            return ARGUMENT;
        }
        if (map.people.size() == 8) {
            return STATE;
        }
        Person p = new Person();
        p.sort = sort;
        p.level = level;
        p.position = position;
        p.came = map.tick;
        p.stays.add(new int[] {position, map.tick, -1});
        map.people.add(p);
        return "" + (map.people.size() - 1);
    }

    private String move(int s, int position) {
        if (nobody(s) || out(position, 0, 15)) {
            return INDEX;
        }
        Person p = map.people.get(s);
        if (p.gone || p.sort == 2 || p.position == position) {
            return STATE;
        }
        int before = p.position;
        p.position = position;
        p.came = map.tick;
        return "" + before;
    }

    private String leave(int s) {
        if (nobody(s)) {
            return INDEX;
        }
        Person p = map.people.get(s);
        if (p.gone) {
            return STATE;
        }
        p.gone = true;
        int lost = p.inbox.size();
        p.lost += lost;
        p.inbox.clear();
        p.stays.get(p.stays.size() - 1)[2] = map.tick;
        return "" + lost;
    }

    private boolean gets(Person p, int leaf, int level, int time) {
        if (p.gone) {
            return false;
        }
        for (int k = Math.max(0, p.stays.size() - 10); k < p.stays.size(); k++) {
            int[] stay = p.stays.get(k);
            boolean within = stay[1] <= time && (stay[2] == -1 || time < stay[2]);
            if (within && overlap(stay[0], p.level, leaf, level)) {
                return true;
            }
        }
        return false;
    }

    private int reached(int leaf, int level, int time) {
        int set = 0;
        for (int s = 0; s < map.people.size(); s++) {
            set += gets(map.people.get(s), leaf, level, time) ? 1 << s : 0;
        }
        return set;
    }

    private boolean tooLate(int late) {
        return late > map.settings[3] || (long) map.tick - late < 0;
    }

    private String publish(int leaf, int level, int late) {
        if (out(leaf, 0, 15)) {
            return INDEX;
        }
        if (out(level, 0, 2) || late < 0) {
            return ARGUMENT;
        }
        if (map.events.size() == 60 || tooLate(late)) {
            return STATE;
        }
        int number = map.events.size();
        map.events.add(new int[] {leaf, level, map.tick - late, map.tick});
        for (Person p : map.people) {
            if (gets(p, leaf, level, map.tick - late)) {
                p.routed.add(number);
                if (p.inbox.size() == 12) {
                    p.dropped++;
                } else {
                    p.inbox.add(number);
                }
            }
        }
        return "" + number;
    }

    private String read(String name, int a, int b, int c) {
        switch (name) {
            case "subscriber":
                return nobody(a) ? INDEX : out(b, 0, 11) ? ARGUMENT : "" + subscriberValue(a, b);
            case "stay":
                return nobody(a) ? INDEX : b < 0 || out(c, 0, 2) ? ARGUMENT : "" + stayValue(a, b, c);
            case "waiting": {
                if (nobody(a)) {
                    return INDEX;
                }
                List<Integer> inbox = map.people.get(a).inbox;
                return b < 0 ? ARGUMENT : "" + (b < inbox.size() ? inbox.get(b) : -1);
            }
            case "event":
                return out(a, 0, map.events.size() - 1) ? INDEX : out(b, 0, 6) ? ARGUMENT : "" + eventValue(a, b);
            case "leaf":
                return out(a, 0, 15) ? INDEX : out(b, 0, 3) ? ARGUMENT : "" + leafValue(a, b);
            case "whole":
                return out(a, 0, 13) ? ARGUMENT : "" + wholeValue(a);
            case "wouldReach":
                return out(a, 0, 15) ? INDEX : out(b, 0, 2) || c < 0 ? ARGUMENT
                    : "" + (tooLate(c) ? -1 : reached(a, b, map.tick - c));
            case "reason":
                return nobody(a) || out(b, 0, 15) ? INDEX : out(c, 0, 2) ? ARGUMENT : "" + reasonValue(a, b, c);
            case "servedIn":
                return nobody(a) ? INDEX : "" + servedIn(a);
            case "emptyIn":
                return nobody(a) ? INDEX : "" + emptyIn(a);
            case "covered":
                return nobody(a) ? INDEX : "" + covered(a);
            case "busiest":
                return "" + busiest();
            default:
                throw new IllegalStateException("no method " + name);
        }
    }

    private int subscriberValue(int s, int what) {
        Person p = map.people.get(s);
        int[] all = {p.sort, p.level, p.position, p.came, p.serving(), p.gone ? 0 : 1, p.inbox.size(), p.routed.size(),
            p.delivered.size(), p.dropped, p.handedOver, p.until};
        return all[what];
    }

    private int stayValue(int s, int index, int what) {
        List<int[]> stays = map.people.get(s).stays;
        return index >= Math.min(10, stays.size()) ? -1 : stays.get(stays.size() - 1 - index)[what];
    }

    private int eventValue(int e, int what) {
        if (what < 4) {
            return map.events.get(e)[what];
        }
        int routed = 0;
        int delivered = 0;
        int waiting = 0;
        for (int s = 0; s < map.people.size(); s++) {
            Person p = map.people.get(s);
            routed += p.routed.contains(e) ? 1 << s : 0;
            delivered += p.delivered.contains(e) ? 1 << s : 0;
            waiting += p.inbox.contains(e) ? 1 : 0;
        }
        return what == 4 ? routed : what == 5 ? delivered : waiting;
    }

    private int leafValue(int leaf, int what) {
        int[] all = {0, map.deliveredIn[leaf], 0, 0};
        for (Person p : map.people) {
            if (!p.gone && p.serving() == leaf) {
                all[0]++;
                all[2] += p.inbox.size();
            }
            if (!p.gone && p.position == leaf) {
                all[3]++;
            }
        }
        return all[what];
    }

    private int wholeValue(int what) {
        int[] all = {map.people.size(), 0, map.events.size(), map.tick, map.settings[0], map.settings[1],
            map.settings[2], map.settings[3], 0, 0, 0, 0, 0, text.length()};
        for (Person p : map.people) {
            all[1] += p.gone ? 0 : 1;
            all[8] += p.inbox.size();
            all[9] += p.delivered.size();
            all[10] += p.dropped;
            all[11] += p.lost;
            all[12] += p.handedOver;
        }
        return all[what];
    }

    private int reasonValue(int s, int leaf, int level) {
        Person p = map.people.get(s);
        if (p.gone) {
            return 1;
        }
        if (!gets(p, leaf, level, map.tick)) {
            return overlap(p.position, p.level, leaf, level) ? 2 : 3;
        }
        return p.inbox.size() == 12 ? 4 : 0;
    }

    private int servedIn(int s) {
        if (map.people.get(s).gone) {
            return -1;
        }
        Map later = map.copy();
        int ticks = 0;
        while (later.people.get(s).position != later.people.get(s).serving()) {
            later.pass();
            ticks++;
        }
        return ticks;
    }

    private int emptyIn(int s) {
        Map later = map.copy();
        int ticks = 0;
        while (ticks <= 200 && !later.people.get(s).inbox.isEmpty()) {
            later.pass();
            ticks++;
        }
        return ticks <= 200 ? ticks : -1;
    }

    private int covered(int s) {
        int set = 0;
        for (int leaf = 0; leaf < 16; leaf++) {
            set += gets(map.people.get(s), leaf, 2, map.tick) ? 1 << leaf : 0;
        }
        return set;
    }

    private int busiest() {
        int best = -1;
        for (int leaf = 15; leaf >= 0; leaf--) {
            int waiting = leafValue(leaf, 2);
            if (waiting > 0 && (best == -1 || waiting >= leafValue(best, 2))) {
                best = leaf;
            }
        }
        return best;
    }

    private long digest() {
        List<Integer> values = new ArrayList<>();
        values.add(stack.size());
        for (int what = 0; what < 14; what++) {
            values.add(wholeValue(what));
        }
        for (int s = 0; s < map.people.size(); s++) {
            for (int what = 0; what < 12; what++) {
                values.add(subscriberValue(s, what));
            }
            for (int index = 0; index < Math.min(10, map.people.get(s).stays.size()); index++) {
                for (int what = 0; what < 3; what++) {
                    values.add(stayValue(s, index, what));
                }
            }
            values.addAll(map.people.get(s).inbox);
            values.add(servedIn(s));
            values.add(covered(s));
        }
        for (int e = 0; e < map.events.size(); e++) {
            for (int what = 0; what < 7; what++) {
                values.add(eventValue(e, what));
            }
        }
        for (int leaf = 0; leaf < 16; leaf++) {
            for (int what = 0; what < 4; what++) {
                values.add(leafValue(leaf, what));
            }
        }
        values.add(busiest());
        long h = 18526;
        for (int v : values) {
            h = 31 * h + v;
        }
        return h;
    }

    // ---- texts

    private static final String[][] WORDS = {{"join", "3"}, {"go", "2"}, {"quit", "1"}, {"event", "2"}, {"late", "3"},
        {"set", "2"}, {"ticks", "1"}};

    /** The fault, or -1: the longest part of the text that can still become a text without fault. */
    static int faultOf(String text) {
        StringBuilder words = new StringBuilder();
        for (String[] word : WORDS) {
            words.append(words.length() == 0 ? "" : "|").append(word[0]).append("( +[0-9]{1,3}){").append(word[1])
                .append("}");
        }
        Pattern whole = Pattern.compile("( *(" + words + ") *;)* *");
        if (whole.matcher(text).matches()) {
            return -1;
        }
        Matcher word = Pattern.compile("[a-z]+").matcher(text);
        int unknown = text.length();
        while (word.find() && unknown == text.length()) {
            String found = word.group();
            boolean known = false;
            for (String[] each : WORDS) {
                known |= each[0].equals(found);
            }
            unknown = known ? unknown : word.start();
        }
        for (int length = text.length(); length >= 0; length--) {
            Matcher matcher = whole.matcher(text.substring(0, length));
            if (matcher.matches() || matcher.hitEnd()) {
                return Math.min(length, unknown);
            }
        }
        return 0;
    }

    private String runText() {
        int fault = faultOf(text.toString());
        if (fault >= 0) {
            return "" + (-10 - fault);
        }
        save();
        int done = 0;
        for (String command : text.toString().split(";")) {
            String[] parts = command.trim().split(" +");
            if (parts[0].isEmpty()) {
                continue;
            }
            int[] n = new int[3];
            for (int k = 1; k < parts.length; k++) {
                n[k - 1] = Integer.parseInt(parts[k]);
            }
            if (carryOut(parts[0], n).endsWith("Exception")) {
                break;
            }
            done++;
        }
        return "" + done;
    }

    private String carryOut(String word, int[] n) {
        switch (word) {
            case "join":
                return change("subscribe", n[0], n[1], n[2]);
            case "go":
                return change("move", n[0], n[1], 0);
            case "quit":
                return change("leave", n[0], 0, 0);
            case "event":
                return change("publish", n[0], n[1], 0);
            case "late":
                return change("publish", n[0], n[1], n[2]);
            case "set":
                return change("set", n[0], n[1], 0);
            default:
                return change("pass", n[0], 0, 0);
        }
    }
}
