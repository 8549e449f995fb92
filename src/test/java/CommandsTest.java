/** Promises 21 to 23: type, clearCommands, runCommands. */
final class CommandsTest {
    private CommandsTest() {
    }

    static void run() {
        typing();
        typingRefused();
        clearing();
        commandsDoAsTheCalls();
        noFault();
        faults();
        faultsBeforeAnOldText();
        faultInTheLastByte();
        stopsAtTheFirstThatWouldThrow();
        everyExceptionStops();
        savesOneState();
        runsAgain();
        longTexts();
    }

    private static void type(CellEvents x, String text) {
        for (int index = 0; index < text.length(); index++) {
            x.type(text.charAt(index));
        }
    }

    /** A map with four subscribers at tick 0, of which 2 is a post and 3 is gone. */
    private static CellEvents map(String text) {
        CellEvents x = new CellEvents();
        x.subscribe(0, 2, 5);
        x.subscribe(1, 1, 5);
        x.subscribe(2, 0, 15);
        x.subscribe(0, 0, 0);
        x.leave(3);
        type(x, text);
        return x;
    }

    private static void typing() {
        Due.topic("promise 21, type");
        CellEvents x = new CellEvents();
        Due.same("type(0)", x.type(0), 1);
        Due.same("type(127)", x.type(127), 2);
        Due.same("type(32)", x.type(32), 3);
        Due.same("whole(13)", x.whole(13), 3);
        Due.badState("it is not undoable", x, () -> x.undo());
        x.set(0, 4);
        x.type('a');
        Due.same("undo()", x.undo(), 0);
        Due.same("an undo leaves the text", x.whole(13), 4);
    }

    private static void typingRefused() {
        CellEvents x = new CellEvents();
        for (int bad : new int[] {-1, 128, Integer.MIN_VALUE, Integer.MAX_VALUE}) {
            Due.badArgument("type(" + bad + ")", x, () -> x.type(bad));
        }
        for (int k = 1; k <= 150; k++) {
            Due.same("type", x.type(' '), k);
        }
        Due.badState("one more", x, () -> x.type(' '));
        Due.badArgument("one more, 128", x, () -> x.type(128));
        Due.badArgument("one more, -1", x, () -> x.type(-1));
        Due.same("runCommands()", x.runCommands(), 0);
        Due.same("clearCommands()", x.clearCommands(), 150);
        Due.same("type", x.type('z'), 1);
    }

    private static void clearing() {
        Due.topic("promise 22, clearCommands");
        CellEvents x = new CellEvents();
        Due.same("empty", x.clearCommands(), 0);
        type(x, "set 0 4;");
        Due.same("clearCommands()", x.clearCommands(), 8);
        Due.same("whole(13)", x.whole(13), 0);
        Due.same("empty again", x.clearCommands(), 0);
        Due.badState("it is not undoable", x, () -> x.undo());
        Due.same("nothing to run", x.runCommands(), 0);
        Due.same("whole(4)", x.whole(4), 3);
        type(x, "set 0 5;");
        Due.same("only the new text runs", x.runCommands(), 1);
        Due.same("whole(4)", x.whole(4), 5);
        Due.same("undo()", x.undo(), 1);
        Due.same("an undo leaves the text", x.whole(13), 8);
        x.clearCommands();
        Due.same("undo()", x.undo(), 0);
        Due.same("nor does it bring it back", x.whole(13), 0);
    }

    /** Each command against the call that it stands for, on a map of the same kind. */
    private static void commandsDoAsTheCalls() {
        Due.topic("promise 23, runCommands");
        same("join 1 0 7;", 1, x -> x.subscribe(1, 0, 7));
        same("join 2 1 15;", 1, x -> x.subscribe(2, 1, 15));
        same("go 0 6;", 1, x -> x.move(0, 6));
        same("go 1 15;", 1, x -> x.move(1, 15));
        same("quit 1;", 1, x -> x.leave(1));
        same("event 4 1;", 1, x -> x.publish(4, 1, 0));
        same("event 15 2;", 1, x -> x.publish(15, 2, 0));
        same("set 0 9;", 1, x -> x.set(0, 9));
        same("set 1 1;", 1, x -> x.set(1, 1));
        same("set 3 20;", 1, x -> x.set(3, 20));
        same("ticks 50;", 1, x -> x.pass(50));
        same("late 5 2 0;", 1, x -> x.publish(5, 2, 0));
        CellEvents x = map("ticks 7;event 5 2;late 5 2 3;late 15 0 7;ticks 1;");
        Due.same("five commands", x.runCommands(), 5);
        Due.same("time", x.event(0, 2), 7);
        Due.same("time", x.event(1, 2), 4);
        Due.same("time", x.event(2, 2), 0);
        Due.same("published", x.event(2, 3), 7);
        Due.same("leaf", x.event(2, 0), 15);
        Due.same("level", x.event(2, 1), 0);
        Due.same("deliveries", x.whole(9), 4);
        Due.same("whole(3)", x.whole(3), 8);
    }

    private interface Change {
        int on(CellEvents x);
    }

    private static void same(String text, int count, Change change) {
        CellEvents x = map(text);
        CellEvents y = map(text);
        change.on(y);
        Due.same(text, x.runCommands(), count);
        Due.same(text + " digest", x.digest(), y.digest());
    }

    private static void answer(String text, int due) {
        CellEvents x = map(text);
        Due.same("[" + text + "]", x.runCommands(), due);
    }

    private static void noFault() {
        answer("", 0);
        answer(" ", 0);
        answer("     ", 0);
        answer("set 0 1;", 1);
        answer("  set   0   1  ;  ", 1);
        answer("set 000 001;", 1);
        answer("set 0 1;set 0 2;", 2);
        answer("set 0 1 ;  set 0 2 ; ", 2);
        answer("go 0 6;go 0 7;quit 0;", 3);
        answer("join 0 0 0;event 0 0;late 0 0 0;ticks 001;", 4);
        answer("set 0 999;", 0);
        answer("ticks 999;", 0);
        answer("quit 999;", 0);
    }

    /** The text, and the index of its fault. */
    private static void fault(String text, int index) {
        CellEvents x = map(text);
        long before = x.digest();
        Due.same("[" + text + "]", x.runCommands(), -10 - index);
        Due.same("[" + text + "] changes the digest", x.digest(), before);
    }

    private static void faults() {
        fault(";", 0);
        fault(" ;", 1);
        fault("set 0 1;;", 8);
        fault("set 0 1; ;", 9);
        fault("1", 0);
        fault("A", 0);
        fault("Set 0 1;", 0);
        fault("`", 0);
        fault("{", 0);
        fault("\t", 0);
        fault("set\t0 1;", 3);
        fault("set 0\t1;", 5);
        fault("set 0 1;\n", 8);
        // A word that is none of the words is at fault with its first byte.
        fault("x", 0);
        fault("  move 0 6;", 2);
        fault("set 0 1; sett 0 1;", 9);
        fault("se", 0);
        fault("se 0 1;", 0);
        fault("se;", 0);
        fault("se0", 0);
        fault("seT 0 1;", 0);
        fault("setx", 0);
        fault("joi", 0);
        fault("joinn 0 0 0;", 0);
        fault("tick 1;", 0);
        fault("events 0 0;", 0);
        fault("publish 0 0 0;", 0);
        fault("level 0 0;", 0);
        fault("undo;", 0);
        fault("goto 0 6;", 0);
        fault("quitt 0;", 0);
        fault("later 0 0 0;", 0);
        fault("zzzzzzzzzzzzzzzzzzzzzzzzzzzz", 0);
        fault("xoin 0 0 0;", 0);
        fault("so 0 6;", 0);
        fault("suit 0;", 0);
        fault("avent 0 0;", 0);
        fault("gate 0 0 0;", 0);
        fault("get 0 1;", 0);
        fault("sit 0 1;", 0);
        fault("seg 0 1;", 0);
        fault("licks 1;", 0);
        fault("tocks 1;", 0);
        // A word that is one of them, and what follows it.
        fault("set", 3);
        fault("set ", 4);
        fault("set;", 3);
        fault("set0 1;", 3);
        fault("setA 0 1;", 3);
        fault("set ;", 4);
        fault("set x 1;", 4);
        fault("set -1 1;", 4);
        fault("set +1 1;", 4);
        fault("set / 1;", 4);
        fault("set : 1;", 4);
        fault("set 0", 5);
        fault("set 0 ", 6);
        fault("set 0;", 5);
        fault("set 0 ;", 6);
        fault("set 0 1", 7);
        fault("set 0 1 ", 8);
        fault("set 0 1 2;", 8);
        fault("set 0 1x;", 7);
        fault("set 0x 1;", 5);
        fault("set 0,1;", 5);
        fault("set 0 1 x", 8);
        fault("set 0 1:", 7);
        fault("set 0 1 set 0 1;", 8);
        fault("set 0 1.", 7);
        // A fourth digit cannot stand.
        fault("set 0000 1;", 7);
        fault("set 0 0001;", 9);
        fault("set 1234 1;", 7);
        fault("ticks 0001;", 9);
        fault("join 0 0 0000", 12);
        // Too few and too many numbers.
        fault("join 0 0;", 8);
        fault("join 0 0 0 0;", 11);
        fault("go 0;", 4);
        fault("go 0 6 7;", 7);
        fault("quit;", 4);
        fault("quit 0 0;", 7);
        fault("event 0;", 7);
        fault("event 0 0 0;", 10);
        fault("late 0 0;", 8);
        fault("late 0 0 0 0;", 11);
        fault("ticks;", 5);
        fault("ticks 1 1;", 8);
        // Of several faults the first one counts.
        fault("set 0; x", 5);
        fault("set ; set ;", 4);
        fault("se 0 1; set", 0);
        fault("ticks 0001; x;", 9);
        fault("ticks 1 1; x;", 8);
        fault("x; set 0", 0);
        // Nothing is done, though what is before the fault could be.
        fault("set 0 1; set 0 2; set 0", 23);
        fault("join 0 0 0; quit 0; x", 20);
        // A number out of its range is no fault, so what is behind it is the first one.
        fault("set 9 999; go", 13);
        fault("\u0000", 0);
        fault("set 0 1;\u007f", 8);
    }

    /** What stood in a longer text that was cleared is no part of the text. */
    private static void faultsBeforeAnOldText() {
        String old = "set 0 1;";
        for (int length = 1; length < old.length(); length++) {
            CellEvents x = map(old);
            x.clearCommands();
            type(x, old.substring(0, length));
            Due.same("[" + old.substring(0, length) + "]", x.runCommands(), length < 3 ? -10 : -10 - length);
        }
        CellEvents y = map("   ;");
        y.clearCommands();
        y.type(' ');
        Due.same("one space", y.runCommands(), 0);
        CellEvents z = map("ticks 12;");
        z.clearCommands();
        type(z, "ticks 1");
        Due.same("no number of two digits", z.runCommands(), -17);
        z.type(';');
        Due.same("one tick", z.runCommands(), 1);
        Due.same("whole(3)", z.whole(3), 1);
    }

    private static void faultInTheLastByte() {
        StringBuilder text = new StringBuilder();
        for (int k = 0; k < 18; k++) {
            text.append("set 0 0;");
        }
        CellEvents x = new CellEvents();
        type(x, text.toString());
        x.type(' ');
        x.type(' ');
        x.type(' ');
        x.type(' ');
        x.type(' ');
        Due.same("149 bytes", x.runCommands(), 18);
        x.type('x');
        Due.same("150 bytes, a fault in the last one", x.runCommands(), -159);
        CellEvents y = new CellEvents();
        type(y, text + "ticks ");
        Due.same("150 bytes that end too soon", y.runCommands(), -160);
        CellEvents z = new CellEvents();
        type(z, text + "quit");
        Due.same("148 bytes that end too soon", z.runCommands(), -158);
    }

    private static void stopsAtTheFirstThatWouldThrow() {
        CellEvents x = map("set 0 1; go 0 6; go 0 6; set 0 2; go 0 7;");
        Due.same("two are done", x.runCommands(), 2);
        Due.same("those before stay done", x.whole(4), 1);
        Due.same("those before stay done", x.subscriber(0, 2), 6);
        CellEvents y = map("quit 7; set 0 1;");
        Due.same("none is done", y.runCommands(), 0);
        Due.same("whole(4)", y.whole(4), 3);
        Due.same("a run that did nothing is undoable", y.undo(), 3);
    }

    private static void everyExceptionStops() {
        String[] bad = {"join 3 0 0;", "join 0 3 0;", "join 0 0 16;", "go 4 0;", "go 0 16;", "go 0 5;", "go 2 0;",
            "go 3 1;", "quit 4;", "quit 3;", "event 16 0;", "event 0 3;", "late 16 0 0;", "late 0 3 0;",
            "late 0 0 9;", "set 4 1;", "set 0 10;", "set 1 0;", "set 1 10;", "set 2 10;", "set 3 21;", "ticks 0;",
            "ticks 51;"};
        for (String command : bad) {
            CellEvents x = map("ticks 10; " + command + " set 0 1; set 0 2;");
            Due.same(command, x.runCommands(), 1);
            Due.same(command, x.whole(4), 3);
            CellEvents y = map("");
            y.pass(10);
            type(y, "ticks 10; " + command + " set 0 1; set 0 2;");
            Due.same(command + " digest", x.digest(), y.digest());
        }
        CellEvents x = map("late 0 0 1;");
        Due.same("before tick 0", x.runCommands(), 0);
        CellEvents y = map("join 0 0 0;join 0 0 0;join 0 0 0;join 0 0 0;join 0 0 0;");
        Due.same("a ninth one", y.runCommands(), 4);
        CellEvents z = map("event 0 0;event 0 0;event 0 0;");
        for (int k = 0; k < 58; k++) {
            z.publish(0, 0, 0);
        }
        Due.same("more than 60", z.runCommands(), 2);
    }

    private static void savesOneState() {
        CellEvents x = new CellEvents();
        x.set(0, 1);
        long before = x.digest();
        type(x, "set 0 2;set 0 4;set 0 5;set 0 6;set 0 7;set 0 8;");
        Due.same("runCommands()", x.runCommands(), 6);
        Due.same("whole(4)", x.whole(4), 8);
        Due.same("undo()", x.undo(), 1);
        Due.same("the state from before the run", x.whole(4), 1);
        x.clearCommands();
        Due.same("digest()", x.digest(), before);
        Due.same("undo()", x.undo(), 0);
        Due.same("an empty text", x.runCommands(), 0);
        Due.same("is undoable", x.undo(), 0);
        x.type('x');
        Due.same("a fault", x.runCommands(), -10);
        Due.badState("is not", x, () -> x.undo());
    }

    private static void runsAgain() {
        CellEvents x = new CellEvents();
        type(x, "join 0 2 5; event 5 2; ticks 1;");
        for (int k = 1; k <= 8; k++) {
            Due.same("runCommands()", x.runCommands(), 3);
            Due.same("the text stays", x.whole(13), 31);
            Due.same("subscribers", x.whole(0), k);
        }
        Due.same("a ninth one", x.runCommands(), 0);
        type(x, "set 0 0;");
        x.undo();
        x.undo();
        Due.same("subscribers", x.whole(0), 7);
        Due.same("with what was typed behind", x.runCommands(), 4);
    }

    private static void longTexts() {
        StringBuilder text = new StringBuilder();
        for (int k = 0; k < 21; k++) {
            text.append(k % 2 == 0 ? "go 0 6;" : "go 0 5;");
        }
        CellEvents x = map(text.toString());
        Due.same("whole(13)", x.whole(13), 147);
        Due.same("21 commands", x.runCommands(), 21);
        Due.same("position", x.subscriber(0, 2), 6);
        CellEvents y = map(text + "abc");
        Due.same("a fault behind 21 commands", y.runCommands(), -157);
        Due.same("position", y.subscriber(0, 2), 5);
    }
}
