/** Long runs of calls, made by a fixed sequence of numbers, against the model. */
final class ModelTest {
    private static final int RUNS = 400;
    private static final int STEPS = 250;
    private static final String[] CHANGES = {"subscribe", "move", "leave", "setLevel", "set", "publish", "pass", "undo"};
    private static final String[] READS = {"subscriber", "stay", "waiting", "event", "leaf", "whole", "wouldReach",
        "reason", "servedIn", "emptyIn", "covered", "busiest"};
    private static final String[] PARTS = {"join 0 1 5;", "join 1 0 9 ;", " go 0 6;", "go 1 3 ; ", "quit 2;",
        "event 5 2;", "event 0 0;", "late 5 1 2;", "late 6 2 1;", "set 0 0;", "set 1 1;", "ticks 1;", "ticks 3;", ";",
        "go 0", "set 1 0000", "got 1", " ", "x", "ticks", "quit"};
    private static final String SIGNS = "  ;;0019gosetjniquvlackx-A";

    private long seed;

    private ModelTest(long first) {
        seed = first;
    }

    static void run() {
        Due.topic("runs against the model");
        for (int run = 0; run < RUNS; run++) {
            new ModelTest(run + 1).play(run);
        }
        for (int run = 0; run < RUNS; run++) {
            new ModelTest(run + 7001).crowd(run);
        }
        for (int run = 0; run < 3 * RUNS; run++) {
            new ModelTest(run + 9001).read(run);
        }
    }

    /** A whole number from 0 up to the bound, without it. */
    private int below(int bound) {
        seed = seed * 6364136223846793005L + 1442695040888963407L;
        return (int) ((seed >>> 33) % bound);
    }

    private int oddly(int usual) {
        int k = below(40);
        int[] odd = {-1, Integer.MIN_VALUE, Integer.MAX_VALUE, 16, 60};
        return k < odd.length ? odd[k] : below(usual);
    }

    private int calls;

    /** One call on both, which must answer alike; and the digest, each second call. */
    private void step(int run, CellEvents x, Model model, String name, int a, int b, int c) {
        String what = "run " + run + ", call " + calls + ", " + name + "(" + a + ", " + b + ", " + c + ")";
        String got = Due.outcome(() -> call(x, name, a, b, c));
        String due = model.call(name, a, b, c);
        calls++;
        if (got.equals(due)) {
            Due.passed++;
        } else {
            Due.fail(what + " answered " + got + ", due is " + due);
        }
    }

    private void play(int run) {
        CellEvents x = new CellEvents();
        Model model = new Model();
        int leaves = 2 + below(15);
        int pace = 1 + below(5);
        int people = 1 + below(8);
        for (int k = 0; k < people; k++) {
            step(run, x, model, "subscribe", below(3), below(3), below(leaves));
        }
        for (int k = 0; k < STEPS - people; k++) {
            change(run, x, model, leaves, pace);
            if (k % 3 == 0) {
                step(run, x, model, "digest", 0, 0, 0);
            }
            if (k % 2 == 0) {
                look(run, x, model, leaves);
            }
        }
    }

    private void change(int run, CellEvents x, Model model, int leaves, int pace) {
        int k = below(64);
        if (k < 3) {
            step(run, x, model, "subscribe", oddly(3), oddly(3), oddly(leaves));
        } else if (k < 20) {
            step(run, x, model, "move", oddly(8), oddly(leaves), 0);
        } else if (k < 21) {
            step(run, x, model, "leave", oddly(8), 0, 0);
        } else if (k < 25) {
            step(run, x, model, "setLevel", oddly(8), oddly(3), 0);
        } else if (k < 29) {
            step(run, x, model, "set", oddly(4), oddly(k < 27 ? 4 : 21), 0);
        } else if (k < 43) {
            step(run, x, model, "publish", oddly(leaves), oddly(3), k < 36 ? 0 : oddly(9));
        } else if (k < 59) {
            step(run, x, model, "pass", oddly(pace) + (k < 44 ? 0 : 1), 0, 0);
        } else if (k < 63) {
            step(run, x, model, "undo", 0, 0, 0);
        } else {
            step(run, x, model, "runCommands", 0, 0, 0);
        }
    }

    private void look(int run, CellEvents x, Model model, int leaves) {
        String name = READS[below(READS.length)];
        int a = name.equals("leaf") || name.equals("wouldReach") ? oddly(leaves)
            : name.equals("whole") ? oddly(15) : name.equals("event") ? oddly(60) : oddly(8);
        int b = name.equals("wouldReach") ? oddly(3) : name.equals("reason") ? oddly(leaves) : oddly(13);
        int c = name.equals("wouldReach") ? oddly(12) : oddly(3);
        step(run, x, model, name, a, b, c);
    }

    /** Many events for few leaves: full inboxes, capacities and handovers. */
    private void crowd(int run) {
        CellEvents x = new CellEvents();
        Model model = new Model();
        int leaves = 1 + below(7);
        step(run, x, model, "set", 0, below(10), 0);
        step(run, x, model, "set", 1, 1 + below(3), 0);
        step(run, x, model, "set", 2, below(10), 0);
        for (int k = 0; k < 8; k++) {
            step(run, x, model, "subscribe", below(5) % 3, below(3), below(leaves));
        }
        for (int k = 0; k < 60; k++) {
            step(run, x, model, "publish", below(leaves), below(3), below(4) == 0 ? below(8) : 0);
            int kind = below(6);
            if (kind < 3) {
                step(run, x, model, "move", below(8), below(leaves), 0);
            } else if (kind == 3) {
                step(run, x, model, "pass", 1 + below(2), 0, 0);
            } else if (kind == 4) {
                step(run, x, model, "set", below(3), 1 + below(9), 0);
            }
            step(run, x, model, "emptyIn", below(8), 0, 0);
            step(run, x, model, "reason", below(8), below(leaves), below(3));
            step(run, x, model, "busiest", 0, 0, 0);
            step(run, x, model, "servedIn", below(8), 0, 0);
            step(run, x, model, "digest", 0, 0, 0);
        }
        step(run, x, model, "leave", below(8), 0, 0);
        step(run, x, model, "digest", 0, 0, 0);
        step(run, x, model, "pass", 50, 0, 0);
        step(run, x, model, "digest", 0, 0, 0);
    }

    /** Texts that are put together of commands and of signs. */
    private void read(int run) {
        CellEvents x = new CellEvents();
        Model model = new Model();
        step(run, x, model, "subscribe", 0, 2, 5);
        step(run, x, model, "subscribe", 1, 1, 6);
        step(run, x, model, "pass", 2, 0, 0);
        int good = below(4) == 0 ? PARTS.length : 13;
        for (int k = 0; k < 10; k++) {
            String part = run % 3 == 0 && below(4) == 0 ? "" + SIGNS.charAt(below(SIGNS.length())) : PARTS[below(good)];
            for (char sign : part.toCharArray()) {
                step(run, x, model, "type", sign, 0, 0);
            }
            step(run, x, model, "runCommands", 0, 0, 0);
            step(run, x, model, "digest", 0, 0, 0);
            if (below(3) == 0) {
                step(run, x, model, "undo", 0, 0, 0);
            }
            if (below(9) == 0) {
                step(run, x, model, "clearCommands", 0, 0, 0);
            }
        }
    }

    private static long call(CellEvents x, String name, int a, int b, int c) {
        switch (name) {
            case "subscribe":
                return x.subscribe(a, b, c);
            case "move":
                return x.move(a, b);
            case "leave":
                return x.leave(a);
            case "setLevel":
                return x.setLevel(a, b);
            case "set":
                return x.set(a, b);
            case "publish":
                return x.publish(a, b, c);
            case "pass":
                return x.pass(a);
            case "subscriber":
                return x.subscriber(a, b);
            case "stay":
                return x.stay(a, b, c);
            case "waiting":
                return x.waiting(a, b);
            case "event":
                return x.event(a, b);
            case "leaf":
                return x.leaf(a, b);
            case "whole":
                return x.whole(a);
            case "wouldReach":
                return x.wouldReach(a, b, c);
            case "reason":
                return x.reason(a, b, c);
            case "servedIn":
                return x.servedIn(a);
            case "emptyIn":
                return x.emptyIn(a);
            case "covered":
                return x.covered(a);
            case "busiest":
                return x.busiest();
            case "type":
                return x.type(a);
            case "clearCommands":
                return x.clearCommands();
            case "runCommands":
                return x.runCommands();
            case "undo":
                return x.undo();
            default:
                return x.digest();
        }
    }
}
