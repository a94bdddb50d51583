/** The boundary cases of the text, of reading it as a program, and of a new run: promises 1 to 5. */
final class EdgesOfTexts {
    private static final int MIN = Edge.MIN;
    private static final int MAX = Edge.MAX;

    private EdgesOfTexts() {
    }

    static void all() {
        promise1NewObject();
        promise1NewRun();
        promise2CharacterRange();
        promise2CharacterOutOfRange();
        promise2FullText();
        promise2FullTextAndWrongCharacter();
        promise3PreviousLength();
        promise4LinesAndCells();
        promise4EmptyText();
        promise4LongLine();
        promise4SixthLineEnd();
        promise4OtherCodes();
        promise4WhicheverStandsFirst();
        promise4InvalidTextIsKept();
        promise4CountOfCells();
        promise4NewRun();
        promise4BreakpointsAndSnapshotsStay();
        promise5KeepsTheQueue();
        promise5PreviousTicks();
    }

    private static void promise1NewObject() {
        Edge.says(1, "Creates a machine with an empty text, a program of spaces, a new run of it, "
                + "an empty input queue and no breakpoints.");
        Edge.is("clearText()", new GridMachine().clearText(), 0);
        Edge.is("load() of the empty text", new GridMachine().load(), 0);
        Edge.is("inputSize()", new GridMachine().inputSize(), 0);
        Edge.same("the queue", Edge.lookAtQueue(new GridMachine()), "queue");
        GridMachine x = new GridMachine();
        for (int cell = 0; cell < 72; cell++) {
            Edge.is("cellAt() of cell " + cell, x.cellAt(cell % 12, cell / 12), 32);
            Edge.is("setBreakpoint() to 0 of cell " + cell, x.setBreakpoint(cell % 12, cell / 12, 0), -2);
            Edge.is("poke() of cell " + cell, x.poke(cell % 12, cell / 12, 33), 32);
            Edge.is("changedCells() behind it", x.changedCells(), cell + 1);
        }
        Edge.is("rewind()", x.rewind(), 0);
        for (int cell = 0; cell < 72; cell++) {
            Edge.is("the program's cell " + cell, x.cellAt(cell % 12, cell / 12), 32);
        }
    }

    /** Looks at a run that has just begun. */
    private static void isNewRun(String what, GridMachine x) {
        Edge.is(what + ": pointerCount()", x.pointerCount(), 1);
        Edge.is(what + ": pointerAt(0)", x.pointerAt(0), 0);
        Edge.is(what + ": pointerAt(1)", x.pointerAt(1), -1);
        Edge.is(what + ": position(0)", x.position(0), 0);
        Edge.is(what + ": direction(0)", x.direction(0), 0);
        Edge.is(what + ": status(0)", x.status(0), 0);
        Edge.is(what + ": status(1)", x.status(1), -1);
        Edge.is(what + ": sleep(0)", x.sleep(0), 0);
        Edge.is(what + ": stackCount(0)", x.stackCount(0), 1);
        Edge.is(what + ": stackSize(0, 0)", x.stackSize(0, 0), 0);
        Edge.is(what + ": valueAt(0, 0, 0)", x.valueAt(0, 0, 0), 0);
        Edge.is(what + ": outputSize()", x.outputSize(), 0);
        Edge.is(what + ": outputAt(0)", x.outputAt(0), 0);
        Edge.is(what + ": outputTotal()", x.outputTotal(), 0);
        Edge.is(what + ": tickCount()", x.tickCount(), 0);
        Edge.is(what + ": changedCells()", x.changedCells(), 0);
    }

    private static void promise1NewRun() {
        Edge.says(1, "A new run has one pointer: identifier 0, position (0, 0), direction right, one empty stack, "
                + "sleep count 0, running.");
        isNewRun("a new object", new GridMachine());
        Edge.is("undoDepth()", new GridMachine().undoDepth(), 0);
    }

    private static void promise2CharacterRange() {
        Edge.says(2, "`character`: character code, 0 to 255");
        GridMachine x = new GridMachine();
        for (int character = 0; character <= 255; character++) {
            int before = character % 90;
            if (before == 0) {
                x.clearText();
            }
            Edge.is("append(" + character + ")", x.append(character), before + 1);
        }
    }

    private static void promise2CharacterOutOfRange() {
        Edge.says(2, "INVALID_ARGUMENT if character is out of range");
        int[] wrong = {-1, 256, MIN, MAX, 512};
        for (int character : wrong) {
            Edge.changesNothingAnywhere("append(" + character + ")", x -> x.append(character), -1);
        }
    }

    private static GridMachine typed(int length) {
        GridMachine x = new GridMachine();
        Due.type(x, "A".repeat(length));
        return x;
    }

    private static void promise2FullText() {
        Edge.says(2, "A program is read from a text of at most 90 characters, which append() builds one character "
                + "at a time.");
        GridMachine x = new GridMachine();
        for (int length = 1; length <= 90; length++) {
            Edge.is("append(65)", x.append(65), length);
        }
        Edge.is("append(65) as the 91st", x.append(65), -3);
        Edge.is("append(65) once more", x.append(65), -3);
        Edge.says(2, "Appends a character to the text.");
        GridMachine typed = new GridMachine();
        Edge.is("append(97)", typed.append(97), 1);
        Edge.is("append(98)", typed.append(98), 2);
        Edge.is("load()", typed.load(), 2);
        Edge.is("the first character", typed.cellAt(0, 0), 97);
        Edge.is("the last character", typed.cellAt(1, 0), 98);
        Edge.says(2, "Returns the new length of the text");
        Edge.is("append(0) as the first", new GridMachine().append(0), 1);
        Edge.is("append(255) as the 90th", typed(89).append(255), 90);
        GridMachine again = typed(90);
        Edge.is("clearText()", again.clearText(), 90);
        Edge.is("append(65) behind clearText()", again.append(65), 1);
        Edge.says(2, "CAPACITY_EXCEEDED if the text already has 90 characters");
        int[] characters = {0, 10, 32, 65, 126, 255};
        for (int character : characters) {
            String what = "append(" + character + ") to 90";
            Edge.changesNothing(what, () -> typed(90), y -> y.append(character), -3);
            Edge.changesNothing(what + " of a full machine", Makings::full, y -> y.append(character), -3);
        }
    }

    private static void promise2FullTextAndWrongCharacter() {
        Edge.says(2, "If several error conditions apply, the method returns the one that its description lists first.");
        int[] wrong = {-1, 256, MIN, MAX};
        for (int character : wrong) {
            Edge.changesNothing("append(" + character + ") to 90", () -> typed(90), x -> x.append(character), -1);
        }
    }

    private static void promise3PreviousLength() {
        Edge.says(3, "Returns the previous length of the text.");
        int[] lengths = {0, 1, 2, 89, 90};
        for (int length : lengths) {
            GridMachine x = typed(length);
            Edge.is("clearText() of " + length, x.clearText(), length);
            Edge.is("clearText() again", x.clearText(), 0);
        }
        Edge.says(3, "Makes the text empty.");
        GridMachine x = typed(90);
        x.clearText();
        Edge.is("load() behind clearText()", x.load(), 0);
        Edge.is("cellAt(0, 0)", x.cellAt(0, 0), 32);
        Edge.changesNothing("clearText() of an empty text", GridMachine::new, GridMachine::clearText, 0);
        Edge.changesNothing("append() and clearText()", GridMachine::new, y -> y.append(65) - y.clearText(), 0);
    }

    private static void promise4LinesAndCells() {
        Edge.says(4, "The characters of line y become the cells of row y, from column 0 on.");
        String full = "abcdefghijkl\nmnopqrstuvwx\nyzABCDEFGHIJ\nKLMNOPQRSTUV\nWXYZ01234567\n89+-*/%!`:;?";
        GridMachine x = new GridMachine();
        Due.type(x, full);
        Edge.is("load() of a full grid", x.load(), 72);
        for (int cell = 0; cell < 72; cell++) {
            int code = full.charAt(13 * (cell / 12) + cell % 12);
            Edge.is("cell " + cell + " of a full grid", x.cellAt(cell % 12, cell / 12), code);
        }
        Edge.says(4, "The character with code 10 ends a line.");
        GridMachine short1 = Due.machine("a\n\nb");
        Edge.is("cellAt(0, 0)", short1.cellAt(0, 0), 'a');
        Edge.is("cellAt(1, 0)", short1.cellAt(1, 0), 32);
        Edge.is("cellAt(0, 1)", short1.cellAt(0, 1), 32);
        Edge.is("cellAt(0, 2)", short1.cellAt(0, 2), 'b');
        Edge.says(4, "All other cells become spaces (code 32).");
        Due.type(x, "#");
        Edge.is("load() of one character", x.load(), 1);
        for (int cell = 1; cell < 72; cell++) {
            Edge.is("cell " + cell + " behind a full grid", x.cellAt(cell % 12, cell / 12), 32);
        }
        Edge.is("rewind()", x.rewind(), 0);
        Edge.is("changedCells()", x.changedCells(), 0);
        Edge.is("cellAt(11, 5) of the new run", x.cellAt(11, 5), 32);
    }

    private static void promise4EmptyText() {
        Edge.says(4, "An empty text is a valid program; all its cells are spaces.");
        GridMachine x = Due.machine("abcdefghijkl\n\n\n\n\n           z");
        Edge.is("load()", x.load(), 0);
        for (int cell = 0; cell < 72; cell++) {
            Edge.is("cell " + cell, x.cellAt(cell % 12, cell / 12), 32);
        }
        isNewRun("an empty text", x);
        Edge.is("load() of an empty text saves the state", x.undoDepth(), 2);
        Edge.is("rewind()", x.rewind(), 0);
        Edge.is("the program is of spaces: cellAt(0, 0)", x.cellAt(0, 0), 32);
        int[] lineEnds = {1, 5, 6};
        for (int count : lineEnds) {
            GridMachine y = new GridMachine();
            Due.type(y, "\n".repeat(count));
            Edge.is("load() of " + count + " line ends", y.load(), 0);
        }
    }

    private static void valid(String text, int cells) {
        GridMachine x = new GridMachine();
        Due.type(x, text);
        Edge.is("load() of " + text.length() + " characters", x.load(), cells);
        Edge.is("clearText() behind it", x.clearText(), 0);
    }

    private static GridMachine busyWith(String text) {
        GridMachine x = Makings.busy();
        x.clearText();
        Due.type(x, text);
        return x;
    }

    private static void invalid(String text, int position) {
        String what = "load() with error position " + position;
        Edge.changesNothing(what, () -> busyWith(text), GridMachine::load, -10 - position);
    }

    private static void promise4LongLine() {
        Edge.says(4, "The text is not a valid program if a line has more than 12 characters, if a character follows "
                + "the sixth line end, or if a character is neither 10 nor from 32 to 126.");
        for (int row = 0; row < 6; row++) {
            String before = "\n".repeat(row);
            valid(before + "abcdefghijkl", 12);
            valid(before + "abcdefghijkl\n", 12);
            valid(before + " ".repeat(12), 0);
            invalid(before + "abcdefghijklm", row + 12);
            invalid(before + " ".repeat(13), row + 12);
        }
        Edge.says(4, "the thirteenth character of a line");
        invalid("abcdefghijkl\nabcdefghijkl\nabcdefghijklm", 38);
        invalid("abcdefghijklmnopqrstuvwxyz", 12);
        invalid("a".repeat(90), 12);
        invalid("abcdefghijkl\u0001", 12);
        valid("abcdefghijkl\nabcdefghijkl\nabcdefghijkl\nabcdefghijkl\nabcdefghijkl\nabcdefghijkl\n", 72);
    }

    private static void promise4SixthLineEnd() {
        Edge.says(4, "the first character behind the sixth line end");
        valid("\n\n\n\n\n", 0);
        valid("\n\n\n\n\n\n", 0);
        valid("\n\n\n\n\na\n", 1);
        String[] following = {"a", " ", "\n", "\t", "\u0000", "\u00ff", "ab", "a\n"};
        for (String text : following) {
            invalid("\n\n\n\n\n\n" + text, 6);
        }
        invalid("a\nb\nc\nd\ne\nf\n@", 12);
        String longest = "abcdefghijkl\n".repeat(6);
        valid(longest, 72);
        invalid(longest + "a", 78);
        invalid(longest + "\n".repeat(12), 78);
    }

    private static void promise4OtherCodes() {
        Edge.says(4, "or the first character with another code");
        for (int code = 0; code <= 255; code++) {
            GridMachine x = new GridMachine();
            x.append('a');
            x.append(code);
            boolean taken = code == 10 || code >= 32 && code <= 126;
            int cells = code == 10 || code == 32 ? 1 : 2;
            Edge.is("load() of code " + code, x.load(), taken ? cells : -11);
            Edge.is("the text behind it", x.clearText(), taken ? 0 : 2);
        }
        int[] wrong = {0, 9, 11, 13, 31, 127, 128, 255};
        for (int code : wrong) {
            invalid("" + (char) code, 0);
            invalid("abcdefghijk" + (char) code, 11);
            invalid("\n\n\n\n\nabcdefghijk" + (char) code, 16);
        }
    }

    private static void promise4WhicheverStandsFirst() {
        Edge.says(4, "The error position is the offset (from 0) of the first character that makes the text invalid: "
                + "the thirteenth character of a line, the first character behind the sixth line end, or the first "
                + "character with another code, whichever stands first.");
        invalid("ab\u007fdefghijklmn", 2);
        invalid("abcdefghijklm\u007f", 12);
        invalid("abcdefghijklm\n\n\n\n\n\n\n", 12);
        invalid("\n\n\n\n\n\nabcdefghijklm", 6);
        invalid("\n\n\n\n\n\u001f\n\n", 5);
        invalid("\n\n\n\n\n\n\u001f", 6);
        invalid("\n\n\n\n\n\nx\u001f", 6);
        invalid("\u001f\u007f", 0);
        invalid("abcdefghijklm\nabcdefghijklm", 12);
    }

    private static void promise4InvalidTextIsKept() {
        Edge.says(4, "or -10 minus the error position if the text is not a valid program (the text is kept then).");
        invalid("\u007f", 0);
        GridMachine x = new GridMachine();
        Due.type(x, "abc\u007f");
        Edge.is("load()", x.load(), -13);
        Edge.is("load() again", x.load(), -13);
        Edge.is("append(100) behind it", x.append(100), 5);
        Edge.is("undoDepth()", x.undoDepth(), 0);
        Edge.is("clearText()", x.clearText(), 5);
        // The last position that an invalid text can have: 78 characters are the longest valid beginning.
        Due.type(x, "abcdefghijkl\n".repeat(6) + "a".repeat(12));
        Edge.is("load() of 90 characters", x.load(), -88);
        Edge.is("clearText() of 90 characters", x.clearText(), 90);
    }

    private static void promise4CountOfCells() {
        Edge.says(4, "Returns the number of cells that are not spaces");
        valid("", 0);
        valid(" ", 0);
        valid("!", 1);
        valid("~ ~", 2);
        valid("\n\n\n\n\n           ~", 1);
        valid("abcdefghijkl\nabcdefghijkl\nabcdefghijkl\nabcdefghijkl\nabcdefghijkl\nabcdefghijk ", 71);
        valid("abcdefghijkl\nabcdefghijkl\nabcdefghijkl\nabcdefghijkl\nabcdefghijkl\nabcdefghijkl", 72);
    }

    private static void promise4NewRun() {
        Edge.says(4, "Reads the text as a new program and begins a new run of it: the grid is the program, there is "
                + "one new pointer, the input queue and the output are empty, no value was ever appended to the "
                + "output, and no tick was performed.");
        GridMachine full = Makings.full();
        full.clearText();
        Due.type(full, "ab");
        Edge.is("load() by a full machine", full.load(), 2);
        isNewRun("load() by a full machine", full);
        Edge.is("inputSize()", full.inputSize(), 0);
        Edge.same("the queue", Edge.lookAtQueue(full), "queue");
        GridMachine halted = Makings.halted();
        halted.clearText();
        Edge.is("load() by a halted machine", halted.load(), 0);
        isNewRun("load() by a halted machine", halted);
        Edge.is("tick(200) of the new run", halted.tick(200), 200);
        GridMachine sleeping = Due.ticked("9w", 2);
        Edge.is("load() in sleep", sleeping.load(), 0);
        isNewRun("load() in sleep", sleeping);
        Edge.says(4, "The text becomes empty.");
        GridMachine x = new GridMachine();
        Due.type(x, "abc");
        Edge.is("load()", x.load(), 3);
        Edge.is("clearText()", x.clearText(), 0);
        Edge.is("load() of what is left", x.load(), 0);
    }

    private static void promise4BreakpointsAndSnapshotsStay() {
        Edge.says(4, "The breakpoints and the snapshots stay.");
        GridMachine x = Due.ticked("12", 3);
        x.setBreakpoint(0, 0, 1);
        x.setBreakpoint(11, 5, 1);
        x.save(0);
        Edge.is("load()", x.load(), 0);
        Edge.is("setBreakpoint(0, 0, 1)", x.setBreakpoint(0, 0, 1), -2);
        Edge.is("setBreakpoint(11, 5, 0)", x.setBreakpoint(11, 5, 0), 1);
        Edge.is("restore(1), still empty", x.restore(1), -2);
        Edge.is("restore(0)", x.restore(0), 3);
        Edge.stack("restore(0)", x, 0, 0, 1, 2);
    }

    private static void promise5KeepsTheQueue() {
        Edge.says(5, "Begins a new run of the loaded program, as load() does, but keeps the input queue as it is.");
        int[] lengths = {0, 1, 15, 16};
        for (int length : lengths) {
            GridMachine x = Due.machine("@");
            StringBuilder due = new StringBuilder("queue");
            for (int i = 0; i < length; i++) {
                x.feed(i - 3);
                due.append(' ').append(i - 3);
            }
            x.tick(1);
            Edge.is("rewind() with " + length + " values", x.rewind(), 1);
            isNewRun("rewind() with " + length + " values", x);
            Edge.is("inputSize()", x.inputSize(), length);
            Edge.same("the queue", Edge.lookAtQueue(x), due.toString());
        }
        GridMachine full = Makings.full();
        Edge.is("rewind() of a full machine", full.rewind(), 85);
        isNewRun("rewind() of a full machine", full);
        Edge.is("the text stays", full.clearText(), 90);
        Edge.is("a breakpoint stays", full.setBreakpoint(11, 5, 1), -2);
        Edge.is("a snapshot stays", full.restore(1), 82);
        GridMachine halted = Makings.halted();
        halted.rewind();
        isNewRun("rewind() of a halted machine", halted);
        Edge.is("the program, not the poked cell", halted.cellAt(11, 0), 32);
        GridMachine sleeping = Due.ticked("9w", 2);
        Edge.is("rewind() in sleep", sleeping.rewind(), 2);
        isNewRun("rewind() in sleep", sleeping);
    }

    private static void promise5PreviousTicks() {
        Edge.says(5, "Returns the number of ticks that the previous run had performed.");
        GridMachine x = new GridMachine();
        Edge.is("rewind() of a new object", x.rewind(), 0);
        x.tick(1);
        Edge.is("rewind() behind one tick", x.rewind(), 1);
        Edge.is("rewind() again", x.rewind(), 0);
        x.tick(200);
        x.run(200);
        x.tick(1);
        Edge.is("rewind() behind 401 ticks", x.rewind(), 401);
        GridMachine halted = Due.machine("12@");
        halted.tick(200);
        Edge.is("rewind() of a halted machine", halted.rewind(), 3);
        Edge.is("it runs again", halted.tick(200), 3);
    }
}
