/** Each sentence that names a boundary case, of promises 21 to 23. */
final class TextBoundsTest {
    private static final String AT_FAULT = "The fault of a command text is the index of the first byte that cannot stand"
        + " at its place, or the length of the text if it ends too soon.";
    private static final String EMPTY_TEXT =
        "perhaps none: a text that is empty, or has spaces alone, has no fault";
    private static final String WRONG_WORD = "A word that is not one of these is at fault with its first byte, found when"
        + " the word is complete: when a byte that is no letter, or the end of the text, follows it.";
    private static final String[] COMMANDS =
        {"join 0 0 0;", "go 0 6;", "quit 0;", "event 0 0;", "late 0 0 0;", "set 0 1;", "ticks 1;"};

    private TextBoundsTest() {
    }

    static void run() {
        type();
        clearCommands();
        texts();
        faults();
        runs();
    }

    // ---- promises 21 and 22

    private static void type() {
        Bounds.promise(21, "The command text has at most 150 bytes.", TextBoundsTest::fullText);
        Bounds.promise(21, "`value`: 0 to 127", TextBoundsTest::eachByte);
        Bounds.promise(21, "Returns the length of the text.", TextBoundsTest::newLength);
        Bounds.promise(21, "Throws `IllegalArgumentException` if value is out of range", () -> {
            for (int bad : Bounds.outside(0, 127)) {
                Bounds.badArgument("value " + bad, Bounds::busy, x -> x.type(bad));
            }
        });
        Bounds.promise(21, "Throws `IllegalStateException` if the text has 150 bytes", TextBoundsTest::byteTooMany);
        Bounds.promise(21, Bounds.FIRST_LISTED, () -> {
            for (int bad : Bounds.outside(0, 127)) {
                Bounds.badArgument("value " + bad + ", full", TextBoundsTest::full, x -> x.type(bad));
            }
        });
    }

    /** A text of 150 bytes, of which 18 commands are made. */
    private static String longest() {
        StringBuilder text = new StringBuilder("ticks 01;set 0 5;");
        for (int k = 0; k < 16; k++) {
            text.append("set 0 ").append(k % 9).append(';');
        }
        return text.append("     ").toString();
    }

    private static CellEvents full() {
        CellEvents x = new CellEvents();
        Bounds.type(x, longest());
        return x;
    }

    private static void fullText() {
        CellEvents x = full();
        Due.same("length", x.whole(13), 150);
        Due.same("all of it is run", x.runCommands(), 18);
        Due.same("the last one that sets", x.whole(4), 15 % 9);
    }

    private static void eachByte() {
        for (int value = 0; value <= 127; value++) {
            CellEvents x = new CellEvents();
            Due.same("type(" + value + ")", x.type(value), 1);
            Due.same("a fault but for a space", x.runCommands(), value == 32 ? 0 : -10);
        }
    }

    private static void newLength() {
        CellEvents x = new CellEvents();
        for (int length = 1; length <= 150; length++) {
            Due.same("type", x.type(' '), length);
        }
        x.clearCommands();
        Due.same("after it was emptied", x.type(0), 1);
    }

    private static void byteTooMany() {
        Bounds.badState("a byte more", TextBoundsTest::full, x -> x.type(' '));
        Bounds.badState("a byte more", TextBoundsTest::full, x -> x.type(0));
        Bounds.badState("a byte more", TextBoundsTest::full, x -> x.type(127));
    }

    private static void clearCommands() {
        Bounds.promise(22, "Empties the command text.", TextBoundsTest::emptied);
        Bounds.promise(22, "Returns the length that it had.", () -> {
            Due.same("empty", new CellEvents().clearCommands(), 0);
            Due.same("full", full().clearCommands(), 150);
            Due.same("in the midst", Bounds.busy().clearCommands(), 25);
        });
    }

    private static void emptied() {
        CellEvents x = full();
        x.clearCommands();
        Due.same("length", x.whole(13), 0);
        Due.same("nothing is run", x.runCommands(), 0);
        Due.same("nothing is set", x.whole(4), 3);
        Due.same("empty already", x.clearCommands(), 0);
        // What stood behind must not be read as the rest of a shorter text.
        Bounds.type(x, "ticks");
        Due.same("a text that ends too soon", x.runCommands(), -15);
        Bounds.type(x, " 1");
        Due.same("a text that ends too soon", x.runCommands(), -17);
    }

    // ---- promise 23: which texts have a fault

    private static void answers(String text, int due) {
        CellEvents x = new CellEvents();
        x.subscribe(0, 2, 5);
        Bounds.type(x, text);
        Due.same("[" + text + "]", x.runCommands(), due);
    }

    /** The text has a fault at this index, also if more faults follow, and the run changes nothing. */
    private static void fault(String text, int index) {
        sameFault(text, index);
        String more = "; set 0; x!";
        if (index < text.length() && text.length() + more.length() <= 150) {
            sameFault(text + more, index);
        }
    }

    private static void sameFault(String text, int index) {
        CellEvents x = new CellEvents();
        CellEvents twin = new CellEvents();
        for (CellEvents each : new CellEvents[] {x, twin}) {
            each.subscribe(0, 2, 5);
            Bounds.type(each, text);
        }
        Due.same("[" + text + "]", x.runCommands(), -10 - index);
        Bounds.alike("[" + text + "]", x, twin);
    }

    private static void texts() {
        Bounds.promise(23, "event p l (publish(p, l, 0)), late p l t (publish(p, l, t))", TextBoundsTest::eventAndLate);
        Bounds.promise(23, EMPTY_TEXT, TextBoundsTest::emptyTexts);
        Bounds.promise(23, "a word of letters a to z", TextBoundsTest::letters);
        Bounds.promise(23, "followed by its numbers", TextBoundsTest::howManyNumbers);
        Bounds.promise(23, "each of one to three digits (zeros in front are allowed; a fourth digit cannot stand)",
            TextBoundsTest::digits);
        Bounds.promise(23, "with at least one space (byte 32) in front", TextBoundsTest::spacesInFrontOfNumbers);
        Bounds.promise(23, "and a semicolon", TextBoundsTest::semicolons);
        Bounds.promise(23, "Spaces may also stand in front of a command, in front of a semicolon, and at the end.",
            TextBoundsTest::otherSpaces);
        Bounds.promise(23, "(That a number is out of its range is no fault.)", TextBoundsTest::numbersOutOfRange);
    }

    private static void eventAndLate() {
        CellEvents x = Bounds.at(8);
        Bounds.type(x, "late 1 2 8;event 0 1;late 0 2 0;");
        Due.same("runCommands()", x.runCommands(), 3);
        int[][] due = {{1, 2, 0, 8, 0, 0, 0}, {0, 1, 8, 8, 1, 0, 1}, {0, 2, 8, 8, 1, 0, 1}};
        for (int event = 0; event < 3; event++) {
            for (int what = 0; what < 7; what++) {
                Due.same("event(" + event + ", " + what + ")", x.event(event, what), due[event][what]);
            }
        }
    }

    private static void emptyTexts() {
        answers("", 0);
        answers(" ", 0);
        answers(" ".repeat(150), 0);
        CellEvents x = new CellEvents();
        x.runCommands();
        Due.same("it has no fault, so it is undoable", x.undo(), 0);
    }

    private static void letters() {
        fault("`", 0);
        fault("{", 0);
        fault("A", 0);
        fault("Z", 0);
        fault("Join 0 0 0;", 0);
        fault("joIn 0 0 0;", 0);
        fault("join` 0 0 0;", 4);
        fault("join{ 0 0 0;", 4);
        fault("joinA 0 0 0;", 4);
        fault("\0", 0);
        fault("\177", 0);
    }

    private static void howManyNumbers() {
        for (String command : COMMANDS) {
            answers(command, 1);
            String body = command.substring(0, command.length() - 1);
            fault(body + " 1;", body.length() + 1);
            fault(body.substring(0, body.length() - 2) + ";", body.length() - 2);
        }
    }

    private static void digits() {
        answers("set 0 1;", 1);
        answers("set 00 01;", 1);
        answers("set 000 001;", 1);
        answers("set 001 009;", 1);
        for (int digit = 0; digit <= 9; digit++) {
            answers("set 0 " + digit + ";", 1);
        }
        fault("set 0000 1;", 7);
        fault("set 0 0001;", 9);
        fault("set 0 0000;", 9);
        fault("join 000 000 0000;", 16);
        fault("ticks 12345;", 9);
        fault("set / 1;", 4);
        fault("set : 1;", 4);
        fault("set 0/ 1;", 5);
        fault("set 0: 1;", 5);
        CellEvents x = new CellEvents();
        Bounds.type(x, "ticks 050;ticks 09;");
        Due.same("zeros in front", x.runCommands(), 2);
        Due.same("tick", x.whole(3), 59);
    }

    private static void spacesInFrontOfNumbers() {
        answers("set 0 1;", 1);
        answers("set     0    1;", 1);
        fault("set0 1;", 3);
        fault("set 0,1;", 5);
        fault("set\t0 1;", 3);
        fault("set 0\t1;", 5);
        fault("set 0\n1;", 5);
        fault("set 0\0371;", 5);
        fault("set 0!1;", 5);
    }

    private static void semicolons() {
        answers("set 0 1;set 0 2;", 2);
        fault("set 0 1", 7);
        fault("set 0 1:", 7);
        fault("set 0 1<", 7);
        fault("set 0 1 set 0 2;", 8);
        fault(";", 0);
        fault(" ;", 1);
        fault("set 0 1;;", 8);
        fault("set 0 1; ;", 9);
    }

    private static void otherSpaces() {
        answers(" set 0 1;", 1);
        answers("   set 0 1;   set 0 2;", 2);
        answers("set 0 1 ;", 1);
        answers("set 0 1    ;set 0 2 ;", 2);
        answers("set 0 1; ", 1);
        answers("set 0 1;     ", 1);
        fault("se t 0 1;", 0);
        fault("set 0 1;\t", 8);
        fault("\tset 0 1;", 0);
        fault("set 0 1 \t;", 8);
    }

    private static void numbersOutOfRange() {
        answers("set 0 999;", 0);
        answers("set 999 0;", 0);
        answers("join 999 999 999;", 0);
        answers("go 999 0;", 0);
        answers("go 0 16;", 0);
        answers("quit 999;", 0);
        answers("event 999 0;", 0);
        answers("late 0 0 999;", 0);
        answers("ticks 999;", 0);
        answers("ticks 0;", 0);
        fault("ticks 999;x", 10);
    }

    private static void faults() {
        Bounds.promise(23, AT_FAULT, TextBoundsTest::firstByteThatCannotStand);
        Bounds.promise(23, "or the length of the text if it ends too soon", TextBoundsTest::endsTooSoon);
        Bounds.promise(23, WRONG_WORD, TextBoundsTest::wrongWords);
        Bounds.promise(23, "-10 minus the fault if it has one", TextBoundsTest::leastAndGreatestFault);
        Bounds.promise(23, "if it has a fault, nothing is done", TextBoundsTest::nothingIsDone);
    }

    private static void firstByteThatCannotStand() {
        fault("!set 0 1;", 0);
        fault("set! 0 1;", 3);
        fault("set !0 1;", 4);
        fault("set 0! 1;", 5);
        fault("set 0 !1;", 6);
        fault("set 0 1!;", 7);
        fault("set 0 1;!", 8);
        fault("set 0 1 !", 8);
        fault("set -1 1;", 4);
        fault("set x 1;", 4);
        fault("set ;", 4);
        fault("set 0 ;", 6);
        fault("set! 0! 1! ?;", 3);
        fault("1", 0);
    }

    /** Each beginning of a text of all the words: it ends too soon, in a word that is not one of these, or not at all. */
    private static void endsTooSoon() {
        for (String command : COMMANDS) {
            int word = command.indexOf(' ');
            for (int length = 1; length < command.length(); length++) {
                String begun = command.substring(0, length);
                fault(begun, length < word ? 0 : length);
                fault("set 0 1; " + begun, 9 + (length < word ? 0 : length));
            }
            fault(command.substring(0, command.length() - 1) + " ", command.length());
        }
    }

    private static void wrongWords() {
        for (String word : new String[] {"x", "se", "sett", "joi", "joinn", "oin", "g", "goo", "qui", "quits", "even",
            "events", "lat", "later", "tick", "tickss", "publish", "undo", "abcdefghijklmnopqrstuvwxyz"}) {
            fault(word, 0);
            fault(word + " 0 1;", 0);
            fault(word + ";", 0);
            fault(word + "0", 0);
            fault(word + "!", 0);
            fault(word + "A", 0);
            fault("  " + word, 2);
            fault("set 0 1;" + word, 8);
            fault("set 0 1 ; " + word + " 1;", 10);
        }
        fault("set 0 1;joinset 0 1;", 8);
        fault("x".repeat(150), 0);
        fault(" ".repeat(149) + "x", 149);
        // One that is complete is found ahead of what follows it, and what stands in front of it ahead of it.
        fault("sett 0000;", 0);
        fault("set 0000 1;sett", 7);
    }

    private static void leastAndGreatestFault() {
        fault(";", 0);
        String commands = longest().substring(0, 145);
        fault(commands + "    x", 149);
        fault(commands + " set ", 150);
        fault(commands + " set", 149);
        fault(commands + "ticks", 150);
        fault(commands + "  set", 150);
    }

    private static void nothingIsDone() {
        CellEvents x = Bounds.busy();
        CellEvents twin = Bounds.busy();
        x.type('x');
        twin.type('x');
        Due.same("a fault behind three commands", x.runCommands(), -35);
        Bounds.alike("a fault behind three commands", x, twin);
    }

    // ---- promise 23: what a run does

    private static void runs() {
        Bounds.promise(23, "Returns the number of commands that were carried out; -10 minus the fault if it has one.",
            TextBoundsTest::howManyWereCarriedOut);
        Bounds.promise(23, "until one of them would throw an exception, which is not thrown",
            TextBoundsTest::untilOneWouldThrow);
        Bounds.promise(23, "those before it stay done, and they alone count", TextBoundsTest::thoseBeforeStayDone);
        Bounds.promise(23, "A run saves one state, the one from before it; its commands save none.",
            TextBoundsTest::savesOneState);
        Bounds.promise(23, "Runs the command text, which stays as it is.", TextBoundsTest::textStays);
        Bounds.promise(23, "Undoable, if it has no fault.", TextBoundsTest::undoableWithoutAFault);
    }

    private static void howManyWereCarriedOut() {
        answers("", 0);
        answers("set 0 1;", 1);
        answers("set 0 1;set 0 1;", 2);
        answers("go 0 6;".repeat(21), 1);
        answers("go 0 6;go 0 5;".repeat(10) + "go 0 6;", 21);
        answers("quit 0;".repeat(21), 1);
    }

    private static final String[] THROWING = {"join 0 0 16;", "join 3 0 0;", "join 0 3 0;", "go 8 0;", "go 0 16;",
        "go 0 5;", "go 1 0;", "go 2 0;", "quit 8;", "quit 2;", "event 16 0;", "event 0 3;", "late 16 0 0;", "late 0 3 0;",
        "late 0 0 9;", "set 4 1;", "set 0 10;", "set 1 0;", "set 1 10;", "set 2 10;", "set 3 21;", "ticks 0;",
        "ticks 51;"};

    private static CellEvents three(String text) {
        CellEvents x = new CellEvents();
        x.subscribe(0, 2, 5);
        x.subscribe(2, 2, 5);
        x.subscribe(1, 2, 5);
        x.leave(2);
        x.pass(30);
        Bounds.type(x, text);
        return x;
    }

    private static void untilOneWouldThrow() {
        for (String command : THROWING) {
            CellEvents x = three(command + "set 0 1;");
            CellEvents twin = three(command + "set 0 1;");
            // The run saves a state, so the twin makes a call that changes nothing.
            twin.set(0, 3);
            Due.same(command, x.runCommands(), 0);
            Due.same(command + " digest", x.digest(), twin.digest());
        }
        answers("late 0 0 1;", 0);
        answers("join 0 0 0;".repeat(8), 7);
        CellEvents sixty = Bounds.sixty();
        Bounds.type(sixty, "set 0 1;event 0 0;set 0 2;");
        Due.same("a 61st event", sixty.runCommands(), 1);
        CellEvents last = Bounds.at(9999);
        Bounds.type(last, "set 0 1;ticks 1;set 0 2;");
        Due.same("beyond the last tick", last.runCommands(), 1);
        Due.same("tick", last.whole(3), 9999);
    }

    private static void thoseBeforeStayDone() {
        for (String command : THROWING) {
            CellEvents x = three("set 0 7;set 2 8;" + command + "set 0 1;set 2 1;");
            Due.same(command, x.runCommands(), 2);
            Due.same(command + " done before", x.whole(4), 7);
            Due.same(command + " done before", x.whole(6), 8);
        }
    }

    private static void savesOneState() {
        CellEvents x = new CellEvents();
        Bounds.type(x, "set 0 1;set 0 2;set 0 4;set 0 5;set 0 6;");
        x.set(0, 9);
        Due.same("runCommands()", x.runCommands(), 5);
        Due.same("undo of the run", x.undo(), 1);
        Due.same("the state from before it", x.whole(4), 9);
        Due.same("undo of set", x.undo(), 0);
        Due.same("the first state", x.whole(4), 3);
        Bounds.badState("the stack is empty", () -> {
            CellEvents y = new CellEvents();
            Bounds.type(y, "set 0 1;set 0 2;");
            y.runCommands();
            y.undo();
            return y;
        }, CellEvents::undo);
        CellEvents z = new CellEvents();
        Bounds.type(z, "set 0 10;");
        Due.same("none is carried out", z.runCommands(), 0);
        Due.same("a state is saved all the same", z.undo(), 0);
    }

    private static void textStays() {
        CellEvents x = new CellEvents();
        Bounds.type(x, "ticks 1; ticks 2 ;");
        for (int run = 1; run <= 5; run++) {
            Due.same("runCommands()", x.runCommands(), 2);
            Due.same("tick", x.whole(3), 3 * run);
            Due.same("length", x.whole(13), 18);
        }
        x.type('x');
        Due.same("with a fault", x.runCommands(), -28);
        Due.same("length", x.whole(13), 19);
        CellEvents y = new CellEvents();
        Bounds.type(y, "ticks 51;");
        y.runCommands();
        Due.same("when a command would throw", y.whole(13), 9);
    }

    private static void undoableWithoutAFault() {
        CellEvents x = new CellEvents();
        Bounds.type(x, "ticks 5;");
        x.runCommands();
        Due.same("undo()", x.undo(), 0);
        Due.same("tick", x.whole(3), 0);
        x.type('x');
        x.runCommands();
        Due.same("a fault saves none", Due.outcome(x::undo).equals("IllegalStateException") ? 1 : 0, 1);
    }
}
