import java.util.List;
import java.util.function.ToIntFunction;

/** The promises 1 to 33, a method each: ordinary inputs, the edges that the document names, and wrong inputs. */
public final class PromisesTest {
    private static final int MIN = Integer.MIN_VALUE;
    private static final int MAX = Integer.MAX_VALUE;
    private static final int[] WRONG_LIMITS = {0, -1, 201, MIN, MAX};
    private static final String RING = ">v\n^<";

    private PromisesTest() {
    }

    public static void main(String[] args) {
        promise1NewObject();
        promise2Append();
        promise3ClearText();
        promise4Load();
        promise4LoadOfInvalidTexts();
        promise5Rewind();
        promise5RewindOfPointers();
        promise6Feed();
        promise7Poke();
        promise8Tick();
        promise9Run();
        promise9RunWithSeveralPointers();
        promise10SetBreakpoint();
        promise11Undo();
        promise11UndoOfInputAndOutput();
        promise12TicksToHalt();
        promise13CycleStart();
        promise13ConfigurationsThatDiffer();
        promise14CycleLength();
        predictionsChangeNothing();
        promise15CellAt();
        promise16ChangedCells();
        promise17PointerCount();
        promise18PointerAt();
        promises19To23OfPointers();
        promise24StackSize();
        promise25ValueAt();
        promise26InputSize();
        promises27To29Output();
        promise30TickCount();
        promise31Save();
        promise32Restore();
        promise32RestoreOfTheOtherSlot();
        promise33UndoDepth();
        errorsChangeNothing();
        Due.end();
    }

    /** A machine in whose state everything differs from that of a new one. */
    private static GridMachine busy() {
        GridMachine x = Due.machine("12t3.~0{4w\n  @");
        x.feed(7);
        x.feed(-8);
        x.feed(9);
        x.poke(5, 5, 'Q');
        x.setBreakpoint(3, 3, 1);
        x.tick(8);
        return x;
    }

    private static String lookAtState(GridMachine x) {
        return Due.look(x).replaceAll(" undo .*", "");
    }

    private static void promise1NewObject() {
        GridMachine x = new GridMachine();
        for (int y = 0; y < 6; y++) {
            for (int column = 0; column < 12; column++) {
                Due.is("new: cellAt(" + column + ", " + y + ")", x.cellAt(column, y), 32);
            }
        }
        Due.is("new: changedCells()", x.changedCells(), 0);
        Due.is("new: pointerCount()", x.pointerCount(), 1);
        Due.is("new: pointerAt(0)", x.pointerAt(0), 0);
        Due.is("new: position(0)", x.position(0), 0);
        Due.is("new: direction(0)", x.direction(0), 0);
        Due.is("new: status(0)", x.status(0), 0);
        Due.is("new: sleep(0)", x.sleep(0), 0);
        Due.is("new: stackCount(0)", x.stackCount(0), 1);
        Due.is("new: stackSize(0, 0)", x.stackSize(0, 0), 0);
        Due.is("new: inputSize()", x.inputSize(), 0);
        Due.is("new: outputSize()", x.outputSize(), 0);
        Due.is("new: outputTotal()", x.outputTotal(), 0);
        Due.is("new: tickCount()", x.tickCount(), 0);
        Due.is("new: undoDepth()", x.undoDepth(), 0);
        Due.is("new: undo()", x.undo(), -2);
        Due.is("new: restore(0)", x.restore(0), -2);
        Due.is("new: restore(1)", x.restore(1), -2);
        Due.is("new: clearText()", x.clearText(), 0);
        Due.is("new: run(200), no breakpoints", x.run(200), 200);
        Due.is("new: setBreakpoint(0, 0, 1)", x.setBreakpoint(0, 0, 1), 1);
        Due.is("new: rewind()", x.rewind(), 200);
        Due.is("constant INVALID_ARGUMENT", GridMachine.INVALID_ARGUMENT, -1);
        Due.is("constant ILLEGAL_STATE", GridMachine.ILLEGAL_STATE, -2);
        Due.is("constant CAPACITY_EXCEEDED", GridMachine.CAPACITY_EXCEEDED, -3);
        Due.is("constant NONE", GridMachine.NONE, -9);
    }

    private static void promise2Append() {
        GridMachine x = new GridMachine();
        Due.is("append(-1)", x.append(-1), -1);
        Due.is("append(256)", x.append(256), -1);
        Due.is("append(MIN)", x.append(MIN), -1);
        Due.is("append(MAX)", x.append(MAX), -1);
        Due.is("append(0)", x.append(0), 1);
        Due.is("append(255)", x.append(255), 2);
        for (int length = 3; length <= 90; length++) {
            Due.is("append(65)", x.append(65), length);
        }
        Due.is("append(65) to 90 characters", x.append(65), -3);
        Due.is("append(256) to 90 characters", x.append(256), -1);
        Due.is("append(-1) to 90 characters", x.append(-1), -1);
        Due.is("clearText() of 90 characters", x.clearText(), 90);
        Due.is("append saves no state", x.undoDepth(), 0);
    }

    private static void promise3ClearText() {
        GridMachine x = new GridMachine();
        Due.type(x, "abc");
        Due.is("clearText()", x.clearText(), 3);
        Due.is("clearText() again", x.clearText(), 0);
        Due.is("append(64) behind clearText()", x.append(64), 1);
        Due.is("load() behind clearText()", x.load(), 1);
        Due.is("cellAt(0, 0)", x.cellAt(0, 0), 64);
        Due.is("cellAt(1, 0)", x.cellAt(1, 0), 32);
        Due.is("clearText() saves no state", x.undoDepth(), 1);
    }

    private static void promise4Load() {
        GridMachine x = busy();
        x.save(0);
        Due.type(x, "ab\n\n c ~\n\n\nxyz");
        Due.is("load()", x.load(), 7);
        Due.is("load(): cellAt(1, 0)", x.cellAt(1, 0), 'b');
        Due.is("load(): cellAt(0, 1)", x.cellAt(0, 1), 32);
        Due.is("load(): cellAt(1, 2)", x.cellAt(1, 2), 'c');
        Due.is("load(): cellAt(3, 2)", x.cellAt(3, 2), '~');
        Due.is("load(): cellAt(2, 5)", x.cellAt(2, 5), 'z');
        Due.is("load(): cellAt(5, 5)", x.cellAt(5, 5), 32);
        Due.is("load(): pointerCount()", x.pointerCount(), 1);
        Due.is("load(): pointerAt(0)", x.pointerAt(0), 0);
        Due.is("load(): position(0)", x.position(0), 0);
        Due.is("load(): direction(0)", x.direction(0), 0);
        Due.is("load(): status(0)", x.status(0), 0);
        Due.is("load(): sleep(0)", x.sleep(0), 0);
        Due.is("load(): stackCount(0)", x.stackCount(0), 1);
        Due.is("load(): stackSize(0, 0)", x.stackSize(0, 0), 0);
        Due.is("load(): inputSize()", x.inputSize(), 0);
        Due.is("load(): outputSize()", x.outputSize(), 0);
        Due.is("load(): outputAt(0)", x.outputAt(0), 0);
        Due.is("load(): outputTotal()", x.outputTotal(), 0);
        Due.is("load(): tickCount()", x.tickCount(), 0);
        Due.is("load(): changedCells()", x.changedCells(), 0);
        Due.is("load(): the text is empty", x.clearText(), 0);
        Due.is("load(): the breakpoint stays", x.setBreakpoint(3, 3, 1), -2);
        Due.is("load() of an empty text", x.load(), 0);
        Due.is("load() of an empty text: cellAt(0, 0)", x.cellAt(0, 0), 32);
        Due.is("load(): the snapshot stays", x.restore(0), 8);
        GridMachine whole = Due.machine("aaaaaaaaaaaa\nbbbbbbbbbbbb\ncccccccccccc\ndddddddddddd\neeeeeeeeeeee\nffffffffffff\n");
        Due.is("a full grid: cellAt(11, 5)", whole.cellAt(11, 5), 'f');
        Due.is("a full grid: cellAt(0, 1)", whole.cellAt(0, 1), 'b');
    }

    private static void invalid(String text, int position) {
        GridMachine x = busy();
        String before = Due.look(x);
        Due.type(x, text);
        Due.is("load() of an invalid text", x.load(), -10 - position);
        Due.same("load() of an invalid text", Due.look(x), before);
        Due.is("load() of an invalid text keeps it", x.load(), -10 - position);
        Due.is("load() of an invalid text keeps it", x.clearText(), text.length());
    }

    private static void promise4LoadOfInvalidTexts() {
        invalid("1234567890123", 12);
        invalid("\n\n123456789012 \n", 14);
        invalid("            " + "\t", 12);
        invalid("\n\n\n\n\n\n ", 6);
        invalid("\n\n\n\n\n\n\n", 6);
        invalid("\n\n\n\n\n\n\t", 6);
        invalid("a\nb\nc\nd\ne\nf\ng", 12);
        invalid("\u001f", 0);
        invalid("ab\u007f", 2);
        invalid("ab\u00ff1234567890123", 2);
        invalid("1234567890123\u00ff", 12);
        invalid("\u0000", 0);
        invalid("a\r\nb", 1);
        StringBuilder longest = new StringBuilder();
        for (int i = 0; i < 90; i++) {
            longest.append(i % 13 == 12 ? '\n' : 'x');
        }
        invalid(longest.toString(), 78);
    }

    private static void promise5Rewind() {
        GridMachine x = Due.machine("12t3.~0{4w\n  @");
        x.feed(7);
        x.feed(8);
        x.poke(5, 5, 'Q');
        x.setBreakpoint(3, 3, 1);
        x.tick(7);
        x.save(1);
        Due.type(x, "abc");
        Due.is("rewind()", x.rewind(), 7);
        Due.is("rewind(): cellAt(0, 0)", x.cellAt(0, 0), '1');
        Due.is("rewind(): cellAt(5, 5)", x.cellAt(5, 5), 32);
        Due.is("rewind(): changedCells()", x.changedCells(), 0);
        Due.is("rewind(): pointerCount()", x.pointerCount(), 1);
        Due.is("rewind(): position(0)", x.position(0), 0);
        Due.is("rewind(): direction(0)", x.direction(0), 0);
        Due.is("rewind(): status(0)", x.status(0), 0);
        Due.is("rewind(): sleep(0)", x.sleep(0), 0);
        Due.is("rewind(): stackCount(0)", x.stackCount(0), 1);
        Due.is("rewind(): stackSize(0, 0)", x.stackSize(0, 0), 0);
        Due.is("rewind(): outputSize()", x.outputSize(), 0);
        Due.is("rewind(): outputTotal()", x.outputTotal(), 0);
        Due.is("rewind(): tickCount()", x.tickCount(), 0);
        Due.is("rewind(): inputSize()", x.inputSize(), 1);
        Due.is("rewind(): the text stays", x.clearText(), 3);
        Due.is("rewind(): the breakpoint stays", x.setBreakpoint(3, 3, 1), -2);
        Due.is("rewind() again", x.rewind(), 0);
        Due.is("rewind(): undoDepth()", x.undoDepth(), 6);
        Due.is("tick(6)", x.tick(6), 6);
        Due.is("rewind(): the queue is kept in its order", x.valueAt(0, 0, 2), 8);
        Due.is("rewind(): the snapshot stays", x.restore(1), 7);
    }

    /** Each of these runs leaves another part of the pointer that differs from a new one. */
    private static void promise5RewindOfPointers() {
        String[] programs = {"v", "<", "^", "1@", "9w", "111111111111", "1{1{1", "tttt"};
        for (String program : programs) {
            GridMachine x = Due.machine(program);
            String before = Due.look(x);
            x.tick(program.equals("9w") ? 5 : 17);
            x.rewind();
            x.save(0);
            x.restore(0);
            Due.same("rewind() of " + program, Due.look(x), before.replaceAll(" undo .*", " undo 0"));
        }
    }

    private static void promise6Feed() {
        GridMachine x = Due.machine("~.");
        for (int i = 0; i < 16; i++) {
            Due.is("feed(" + (i * i - 50) + ")", x.feed(i * i - 50), i + 1);
        }
        Due.is("feed(0) to 16 values", x.feed(0), -3);
        Due.is("feed(MIN) to 16 values", x.feed(MIN), -3);
        Due.is("inputSize()", x.inputSize(), 16);
        Due.is("tick(2)", x.tick(2), 2);
        Due.is("feed(MAX) to 15 values", x.feed(MAX), 16);
        x.tick(182);
        x.tick(2);
        for (int i = 0; i < 16; i++) {
            Due.is("outputAt(" + i + ")", x.outputAt(i), i * i - 50);
        }
        Due.is("outputTotal()", x.outputTotal(), 16);
        Due.is("inputSize() behind sixteen rounds", x.inputSize(), 1);
        x.tick(8);
        Due.is("the value that was fed last", x.outputAt(16), MAX);
        GridMachine saved = new GridMachine();
        Due.is("feed(MIN)", saved.feed(MIN), 1);
        Due.is("feed saves the state", saved.undo(), 0);
        Due.is("undo of feed", saved.inputSize(), 0);
    }

    private static void promise7Poke() {
        GridMachine x = Due.machine("abc\ndef");
        Due.is("poke(1, 1, 88)", x.poke(1, 1, 88), 'e');
        Due.is("poke(1, 1, 89)", x.poke(1, 1, 89), 88);
        Due.is("poke(11, 5, 126)", x.poke(11, 5, 126), 32);
        Due.is("poke(0, 0, 32)", x.poke(0, 0, 32), 'a');
        Due.is("cellAt(1, 1)", x.cellAt(1, 1), 89);
        Due.is("cellAt(11, 5)", x.cellAt(11, 5), 126);
        Due.is("cellAt(0, 0)", x.cellAt(0, 0), 32);
        int[][] wrong = {{-1, 0, 65}, {12, 0, 65}, {MIN, 0, 65}, {MAX, 0, 65}, {0, -1, 65}, {0, 6, 65}, {0, MIN, 65},
            {0, MAX, 65}, {0, 0, 31}, {0, 0, 127}, {0, 0, MIN}, {0, 0, MAX}, {0, 0, 0}, {0, 0, 10}};
        for (int[] call : wrong) {
            Due.is("poke of a wrong argument", x.poke(call[0], call[1], call[2]), -1);
        }
        Due.is("undoDepth()", x.undoDepth(), 5);
        Due.is("poke of the same code", x.poke(0, 0, 32), 32);
        Due.is("poke of the same code saves the state", x.undoDepth(), 6);
        x.rewind();
        Due.is("poke does not change the program", x.cellAt(1, 1), 'e');
        GridMachine executed = new GridMachine();
        executed.poke(0, 0, '@');
        Due.is("a poked instruction is executed", executed.tick(200), 1);
    }

    private static void promise8Tick() {
        GridMachine x = Due.machine(RING);
        for (int limit : WRONG_LIMITS) {
            Due.is("tick(" + limit + ")", x.tick(limit), -1);
        }
        Due.is("tick(1)", x.tick(1), 1);
        Due.is("tick(200)", x.tick(200), 200);
        Due.is("tickCount()", x.tickCount(), 201);
        Due.is("undoDepth()", x.undoDepth(), 3);
        GridMachine halting = Due.machine("123@");
        halting.setBreakpoint(1, 0, 1);
        Due.is("tick(3)", halting.tick(3), 3);
        Due.is("tick(3) to the halt", halting.tick(3), 1);
        Due.is("tick(1) of a halted machine", halting.tick(1), -2);
        Due.is("tick(0) of a halted machine", halting.tick(0), -1);
        Due.is("tick(201) of a halted machine", halting.tick(201), -1);
        Due.is("undoDepth()", halting.undoDepth(), 3);
        // A pointer that sleeps is running.
        GridMachine sleeping = Due.ticked("9w@", 2);
        Due.is("tick(9) in sleep", sleeping.tick(9), 9);
        Due.is("tick(9) behind the sleep", sleeping.tick(9), 1);
        // Only when the last pointer stops is the machine halted.
        GridMachine two = Due.machine("t@   @");
        Due.is("tick(200) of two pointers", two.tick(200), 8);
    }

    private static void promise9Run() {
        GridMachine x = Due.machine(RING);
        for (int limit : WRONG_LIMITS) {
            Due.is("run(" + limit + ")", x.run(limit), -1);
        }
        Due.is("run(200) without a breakpoint", x.run(200), 200);
        x.rewind();
        x.setBreakpoint(0, 0, 1);
        Due.is("run(200): the cell where it begins does not count", x.run(200), 4);
        Due.is("position(0)", x.position(0), 0);
        Due.is("run(3): the limit comes first", x.run(3), 3);
        Due.is("run(3)", x.run(3), 1);
        x.setBreakpoint(1, 1, 1);
        Due.is("run(200) to the next breakpoint", x.run(200), 2);
        Due.is("tick(200) heeds no breakpoint", x.tick(200), 200);
        Due.is("undoDepth()", x.undoDepth(), 6);
        GridMachine halting = Due.machine("12@");
        halting.setBreakpoint(2, 0, 1);
        Due.is("run(200) before the halt", halting.run(200), 2);
        Due.is("run(200): a stopped pointer does not count", halting.run(200), 1);
        Due.is("run(200) of a halted machine", halting.run(200), -2);
        Due.is("run(0) of a halted machine", halting.run(0), -1);
        Due.is("run(201) of a halted machine", halting.run(201), -1);
        Due.is("run saves the state", halting.undo(), 2);
        Due.is("run: position(0) behind undo", halting.position(0), 2);
        Due.is("run: status(0) behind undo", halting.status(0), 0);
        GridMachine sleeping = Due.machine("3w");
        sleeping.setBreakpoint(2, 0, 1);
        Due.is("run(200): a sleeping pointer does not count", sleeping.run(200), 5);
        Due.is("run(200): sleep(0)", sleeping.sleep(0), 0);
    }

    private static void promise9RunWithSeveralPointers() {
        GridMachine x = Due.machine(" t   @");
        x.setBreakpoint(0, 0, 1);
        Due.is("run(200): a new pointer counts", x.run(200), 2);
        Due.is("position(1)", x.position(1), 0);
        x.setBreakpoint(0, 0, 0);
        x.setBreakpoint(5, 0, 1);
        Due.is("run(200): pointer 0 comes first", x.run(200), 3);
        // Pointer 0 stands stopped in the cell; pointer 1 comes to it from the other side.
        Due.is("run(200): pointer 1 comes", x.run(200), 4);
        Due.is("run(200): position(1)", x.position(1), 5);
        Due.is("run(200): status(0)", x.status(0), 1);
        Due.is("run(200) to the halt", x.run(200), 1);
    }

    private static void promise10SetBreakpoint() {
        GridMachine x = new GridMachine();
        Due.is("setBreakpoint(0, 0, 0)", x.setBreakpoint(0, 0, 0), -2);
        Due.is("setBreakpoint(0, 0, 1)", x.setBreakpoint(0, 0, 1), 1);
        Due.is("setBreakpoint(0, 0, 1)", x.setBreakpoint(0, 0, 1), -2);
        Due.is("setBreakpoint(11, 5, 1)", x.setBreakpoint(11, 5, 1), 2);
        Due.is("setBreakpoint(0, 1, 1)", x.setBreakpoint(0, 1, 1), 3);
        Due.is("setBreakpoint(0, 0, 0)", x.setBreakpoint(0, 0, 0), 2);
        Due.is("setBreakpoint(0, 0, 0)", x.setBreakpoint(0, 0, 0), -2);
        int[][] wrong = {{-1, 0, 1}, {12, 0, 1}, {MIN, 0, 1}, {MAX, 0, 1}, {0, -1, 1}, {0, 6, 1}, {0, MIN, 1},
            {0, MAX, 1}, {0, 0, 2}, {0, 0, -1}, {0, 0, MIN}, {0, 0, MAX}, {12, 0, 0}, {0, 6, 0}};
        for (int[] call : wrong) {
            Due.is("setBreakpoint of a wrong argument", x.setBreakpoint(call[0], call[1], call[2]), -1);
        }
        Due.is("setBreakpoint(5, 5, 1)", x.setBreakpoint(5, 5, 1), 3);
        Due.is("setBreakpoint saves no state", x.undoDepth(), 0);
        GridMachine all = new GridMachine();
        for (int cell = 0; cell < 72; cell++) {
            Due.is("setBreakpoint of all cells", all.setBreakpoint(cell % 12, cell / 12, 1), cell + 1);
        }
        all.feed(1);
        all.undo();
        Due.is("undo() keeps the breakpoints", all.setBreakpoint(0, 0, 0), 71);
        all.save(0);
        all.setBreakpoint(1, 0, 0);
        all.restore(0);
        Due.is("restore() keeps the breakpoints", all.setBreakpoint(1, 0, 0), -2);
    }

    /** Makes so many of six calls that save a state, behind a load(). */
    private static GridMachine savedTimes(int count) {
        GridMachine x = Due.machine("12t3.~0{4w\n  @");
        List<ToIntFunction<GridMachine>> calls = List.of(y -> y.feed(5), y -> y.poke(4, 4, 'K'), y -> y.tick(9),
                y -> y.run(3), GridMachine::rewind, PromisesTest::typeAndLoad);
        for (ToIntFunction<GridMachine> call : calls.subList(0, count)) {
            Due.isTrue("a call that saves the state", call.applyAsInt(x) >= 0);
        }
        return x;
    }

    private static int typeAndLoad(GridMachine x) {
        Due.type(x, "xyz");
        return x.load();
    }

    private static void promise11Undo() {
        for (int back = 1; back <= 6; back++) {
            GridMachine x = savedTimes(6);
            for (int i = 1; i <= back; i++) {
                // With the seventh state the first one was discarded.
                Due.is("undo()", x.undo(), 6 - i);
            }
            Due.same("undo() " + back + " times", lookAtState(x), lookAtState(savedTimes(6 - back)));
        }
        GridMachine none = savedTimes(6);
        Due.type(none, "pq");
        for (int i = 5; i >= 0; i--) {
            Due.is("undo()", none.undo(), i);
        }
        Due.is("undo() of none", none.undo(), -2);
        Due.is("undo() keeps the text", none.clearText(), 2);
        GridMachine program = Due.machine("ab");
        Due.type(program, "cd");
        program.load();
        program.undo();
        program.poke(0, 0, 'X');
        program.rewind();
        Due.is("undo() brings the loaded program back", program.cellAt(0, 0), 'a');
        GridMachine again = Due.machine("5.");
        again.tick(2);
        again.undo();
        Due.is("tick(1) behind undo()", again.tick(1), 1);
        Due.is("undoDepth() behind it", again.undoDepth(), 2);
        Due.is("undo() behind it", again.undo(), 1);
        Due.is("position(0)", again.position(0), 0);
    }

    private static void promise11UndoOfInputAndOutput() {
        GridMachine x = Due.machine("~.~.");
        x.feed(5);
        x.feed(6);
        x.feed(7);
        x.tick(2);
        x.save(0);
        x.rewind();
        x.tick(4);
        Due.output("behind rewind()", x, 6, 7);
        x.undo();
        x.undo();
        Due.output("undo() of rewind()", x, 5);
        x.tick(2);
        Due.output("undo() brings the queue back", x, 5, 6);
        x.rewind();
        x.tick(2);
        Due.output("behind another rewind()", x, 7);
        x.restore(0);
        Due.output("restore()", x, 5);
        Due.is("tick(12)", x.tick(12), 12);
        Due.output("restore() brings the queue back", x, 5, 6, 7);
    }

    private static void promise12TicksToHalt() {
        GridMachine x = Due.machine("123@");
        for (int limit : WRONG_LIMITS) {
            Due.is("ticksToHalt(" + limit + ")", x.ticksToHalt(limit), -1);
        }
        Due.is("ticksToHalt(3)", x.ticksToHalt(3), -9);
        Due.is("ticksToHalt(4)", x.ticksToHalt(4), 4);
        Due.is("ticksToHalt(200)", x.ticksToHalt(200), 4);
        x.tick(3);
        Due.is("ticksToHalt(1)", x.ticksToHalt(1), 1);
        x.tick(1);
        Due.is("ticksToHalt(1) of a halted machine", x.ticksToHalt(1), 0);
        Due.is("ticksToHalt(0) of a halted machine", x.ticksToHalt(0), -1);
        Due.is("ticksToHalt(201) of a halted machine", x.ticksToHalt(201), -1);
        Due.is("ticksToHalt(200) of a ring", Due.machine(RING).ticksToHalt(200), -9);
        Due.is("ticksToHalt(200) of a fault", Due.machine("111111111111").ticksToHalt(200), 17);
        GridMachine breakpoint = Due.machine("123@");
        breakpoint.setBreakpoint(1, 0, 1);
        Due.is("ticksToHalt(200) heeds no breakpoint", breakpoint.ticksToHalt(200), 4);
        GridMachine input = Due.machine("~_@");
        input.feed(0);
        Due.is("ticksToHalt(200) with input", input.ticksToHalt(200), 3);
        Due.is("inputSize()", input.inputSize(), 1);
    }

    private static void promise13CycleStart() {
        GridMachine x = Due.machine(RING);
        for (int limit : WRONG_LIMITS) {
            Due.is("cycleStart(" + limit + ")", x.cycleStart(limit), -1);
        }
        Due.is("cycleStart(4)", x.cycleStart(4), -9);
        Due.is("cycleStart(5)", x.cycleStart(5), 1);
        Due.is("cycleStart(6)", x.cycleStart(6), 1);
        x.tick(1);
        Due.is("cycleStart(3) in the cycle", x.cycleStart(3), -9);
        Due.is("cycleStart(4) in the cycle", x.cycleStart(4), 0);
        GridMachine halting = Due.machine("123@");
        Due.is("cycleStart(200) of a machine that halts", halting.cycleStart(200), -9);
        Due.is("cycleStart(4) of a machine that halts", halting.cycleStart(4), -9);
        halting.tick(4);
        Due.is("cycleStart(200) of a halted machine", halting.cycleStart(200), -9);
        Due.is("cycleStart(0) of a halted machine", halting.cycleStart(0), -1);
        Due.is("cycleStart(12) of spaces", new GridMachine().cycleStart(12), 0);
        Due.is("cycleStart(11) of spaces", new GridMachine().cycleStart(11), -9);
        // Outputs and ticks are no part of a configuration.
        Due.is("cycleStart(12) with output", Due.machine("5.").cycleStart(12), 0);
        // A long way into the cycle: five times 9w take eleven ticks each, and 9, v and > one each.
        GridMachine late = Due.machine("9w9w9w9w9w9v\n           >");
        Due.is("cycleStart(200) late", late.cycleStart(200), 58);
        Due.is("cycleStart(70), just far enough", late.cycleStart(58 + 12), 58);
        Due.is("cycleStart(69), a tick too few", late.cycleStart(58 + 11), -9);
        Due.is("cycleLength(70), just far enough", late.cycleLength(58 + 12), 12);
        Due.is("cycleLength(69), a tick too few", late.cycleLength(58 + 11), -9);
    }

    /** Runs in which a part of the configuration keeps it from recurring. */
    private static void promise13ConfigurationsThatDiffer() {
        // The stack grows to the fault in the seventeenth push.
        Due.is("a growing stack", Due.machine("1").cycleStart(200), -9);
        Due.is("a growing stack, before the fault", Due.machine("1").cycleStart(100), -9);
        Due.is("a stack of zeroes that grows", Due.machine("0").cycleStart(100), -9);
        // The value counts up, and all else recurs.
        Due.is("a counting value", Due.machine("1+").cycleStart(200), -9);
        // The sleep count alone differs while the pointer sleeps.
        Due.is("a sleeping pointer", Due.machine("9w").cycleStart(20), -9);
        Due.is("a sleeping pointer, a round later", Due.machine("9w").cycleStart(21), 0);
        // The grid alone differs: the p's cell (0, 1) changes in the first round; then it is the same.
        GridMachine grid = Due.machine("66*01p");
        Due.is("a grid that changes once: cycleStart(200)", grid.cycleStart(200), 6);
        Due.is("a grid that changes once: cycleLength(200)", grid.cycleLength(200), 12);
        // A cell that counts up from round to round.
        Due.is("a counting cell", Due.machine("01g1+01p").cycleStart(200), -9);
        // The queue alone differs: each round takes a value.
        GridMachine queue = Due.machine("~$");
        for (int i = 0; i < 3; i++) {
            queue.feed(0);
        }
        // In the third round the queue runs empty; then the pointer goes to and fro between "~" and itself.
        Due.is("an input queue that runs empty", queue.cycleStart(200), 26);
        Due.is("an input queue that runs empty: cycleLength", queue.cycleLength(200), 24);
        // A queue that nobody takes from is the same in each configuration.
        GridMachine untouched = Due.machine(RING);
        untouched.feed(3);
        untouched.feed(4);
        Due.is("a queue that stays", untouched.cycleStart(200), 1);
        // The cell (0, 0) alone differs: the first round puts "$" there.
        Due.is("the first cell", Due.machine("66*00p").cycleStart(200), 6);
        // Pointer 0 goes round in a ring of four; pointer 1 comes to the "@" behind tick 7 and is stopped behind tick 8.
        Due.is("the status", Due.machine("t>v  @\n ^<").cycleStart(200), 8);
        // The border between the stacks alone differs: the first round moves it up to the last value.
        Due.is("the sizes of the stacks", Due.machine("551{v\n1}0{>").cycleStart(200), 15);
        // The number of stacks alone differs in the first two rounds.
        Due.is("the number of stacks", Due.machine("5{").cycleStart(200), 14);
    }

    private static void promise14CycleLength() {
        GridMachine x = Due.machine(RING);
        for (int limit : WRONG_LIMITS) {
            Due.is("cycleLength(" + limit + ")", x.cycleLength(limit), -1);
        }
        Due.is("cycleLength(4)", x.cycleLength(4), -9);
        Due.is("cycleLength(5)", x.cycleLength(5), 4);
        Due.is("cycleLength(200)", x.cycleLength(200), 4);
        GridMachine halting = Due.machine("123@");
        Due.is("cycleLength(200) of a machine that halts", halting.cycleLength(200), -9);
        halting.tick(4);
        Due.is("cycleLength(200) of a halted machine", halting.cycleLength(200), -9);
        Due.is("cycleLength(201) of a halted machine", halting.cycleLength(201), -1);
        Due.is("cycleLength(11) of spaces", new GridMachine().cycleLength(11), -9);
        Due.is("cycleLength(12) of spaces", new GridMachine().cycleLength(12), 12);
        Due.is("cycleLength(200) of spaces", new GridMachine().cycleLength(200), 12);
        Due.is("cycleLength(200) of two pointers", Due.machine("t").cycleLength(200), 12);
        Due.is("cycleLength(200) of a column", Due.machine("v").cycleLength(200), 6);
        Due.is("cycleLength(200) to and fro", Due.machine("r").cycleLength(200), 24);
    }

    private static void predictionsChangeNothing() {
        GridMachine x = busy();
        Due.type(x, "abc");
        String before = Due.look(x);
        x.ticksToHalt(200);
        Due.same("ticksToHalt(200)", Due.look(x), before);
        x.cycleStart(200);
        Due.same("cycleStart(200)", Due.look(x), before);
        x.cycleLength(200);
        Due.same("cycleLength(200)", Due.look(x), before);
        Due.is("the text stays", x.clearText(), 3);
    }

    private static void promise15CellAt() {
        GridMachine x = Due.machine("abc\nd\n\n\n\n           z");
        Due.is("cellAt(0, 0)", x.cellAt(0, 0), 'a');
        Due.is("cellAt(2, 0)", x.cellAt(2, 0), 'c');
        Due.is("cellAt(0, 1)", x.cellAt(0, 1), 'd');
        Due.is("cellAt(1, 1)", x.cellAt(1, 1), 32);
        Due.is("cellAt(11, 5)", x.cellAt(11, 5), 'z');
        int[][] wrong = {{-1, 0}, {12, 0}, {0, -1}, {0, 6}, {MIN, 0}, {MAX, 0}, {0, MIN}, {0, MAX}, {-1, 1}, {12, -1}};
        for (int[] call : wrong) {
            Due.is("cellAt of a wrong argument", x.cellAt(call[0], call[1]), -1);
        }
    }

    private static void promise16ChangedCells() {
        GridMachine x = Due.machine("abc");
        Due.is("changedCells()", x.changedCells(), 0);
        x.poke(0, 0, 'b');
        x.poke(11, 5, 'b');
        Due.is("changedCells() of two", x.changedCells(), 2);
        x.poke(0, 0, 'a');
        Due.is("changedCells() of one", x.changedCells(), 1);
        x.poke(11, 5, ' ');
        Due.is("changedCells() of none", x.changedCells(), 0);
        GridMachine all = new GridMachine();
        for (int cell = 0; cell < 72; cell++) {
            all.poke(cell % 12, cell / 12, '!');
        }
        Due.is("changedCells() of all", all.changedCells(), 72);
    }

    private static void promise17PointerCount() {
        GridMachine x = Due.machine("tttt@");
        int[] due = {2, 3, 4, 4, 4};
        Due.is("pointerCount()", x.pointerCount(), 1);
        for (int count : due) {
            x.tick(1);
            Due.is("pointerCount()", x.pointerCount(), count);
        }
        Due.is("a stopped pointer counts", x.status(0), 1);
    }

    private static void promise18PointerAt() {
        GridMachine x = Due.ticked("tt", 2);
        int[] due = {0, 2, 1};
        for (int place = 0; place < due.length; place++) {
            Due.is("pointerAt(" + place + ")", x.pointerAt(place), due[place]);
        }
        int[] wrong = {-1, 3, 4, MIN, MAX};
        for (int place : wrong) {
            Due.is("pointerAt(" + place + ")", x.pointerAt(place), -1);
        }
    }

    private static void promises19To23OfPointers() {
        GridMachine x = Due.ticked("5t4w0{0{@", 4);
        Due.is("position(0)", x.position(0), 4);
        Due.is("position(1)", x.position(1), 10);
        Due.is("direction(0)", x.direction(0), 0);
        Due.is("direction(1)", x.direction(1), 2);
        Due.is("sleep(0)", x.sleep(0), 4);
        Due.is("sleep(1)", x.sleep(1), 0);
        Due.is("stackCount(0)", x.stackCount(0), 1);
        Due.is("status(1)", x.status(1), 0);
        x.tick(4);
        x.tick(5);
        Due.is("stackCount(0)", x.stackCount(0), 3);
        Due.is("stackCount(1)", x.stackCount(1), 1);
        Due.is("status(0)", x.status(0), 1);
        Due.is("status(1) in the same cell", x.status(1), 1);
        Due.is("status(0) of a fault", Due.ticked("111111111111", 17).status(0), 2);
        Due.is("position(0) in row 5", Due.ticked("^", 1).position(0), 60);
        int[] wrong = {-1, 2, 3, 4, MIN, MAX};
        for (int pointer : wrong) {
            Due.is("position(" + pointer + ")", x.position(pointer), -1);
            Due.is("direction(" + pointer + ")", x.direction(pointer), -1);
            Due.is("status(" + pointer + ")", x.status(pointer), -1);
            Due.is("sleep(" + pointer + ")", x.sleep(pointer), -1);
            Due.is("stackCount(" + pointer + ")", x.stackCount(pointer), -1);
            Due.is("stackSize(" + pointer + ", 0)", x.stackSize(pointer, 0), -1);
            Due.is("valueAt(" + pointer + ", 0, 0)", x.valueAt(pointer, 0, 0), 0);
        }
    }

    private static void promise24StackSize() {
        GridMachine x = Due.ticked("1231{45", 7);
        Due.is("stackSize(0, 0)", x.stackSize(0, 0), 2);
        Due.is("stackSize(0, 1)", x.stackSize(0, 1), 3);
        int[] wrong = {-1, 2, 3, MIN, MAX};
        for (int stack : wrong) {
            Due.is("stackSize(0, " + stack + ")", x.stackSize(0, stack), -1);
        }
        Due.is("stackSize(1, 0)", x.stackSize(1, 0), -1);
        Due.is("stackSize(0, 1) behind }", closed().stackSize(0, 1), -1);
    }

    private static GridMachine closed() {
        return Due.ticked("90{451}", 7);
    }

    private static void promise25ValueAt() {
        GridMachine x = Due.ticked("1231{45", 7);
        Due.stack("1231{45", x, 0, 0, 1, 2);
        Due.stack("1231{45", x, 0, 1, 3, 4, 5);
        int[][] wrong = {{0, 0, 2}, {0, 0, -1}, {0, 0, MIN}, {0, 0, MAX}, {0, 1, 3}, {0, 1, 16}, {0, 2, 0}, {0, -1, 0},
            {0, MAX, 0}, {0, MIN, 0}, {1, 0, 0}, {-1, 0, 0}};
        for (int[] call : wrong) {
            Due.is("valueAt of none", x.valueAt(call[0], call[1], call[2]), 0);
        }
        Due.is("valueAt(0, 1, 0) behind }", closed().valueAt(0, 1, 0), 0);
        Due.stack("90{451}", closed(), 0, 0, 9, 5);
    }

    private static void promise26InputSize() {
        GridMachine x = Due.machine("~~");
        Due.is("inputSize()", x.inputSize(), 0);
        x.feed(1);
        x.feed(2);
        Due.is("inputSize() of two", x.inputSize(), 2);
        x.tick(1);
        Due.is("inputSize() of one", x.inputSize(), 1);
        x.tick(1);
        Due.is("inputSize() of none", x.inputSize(), 0);
    }

    private static void promises27To29Output() {
        GridMachine x = Due.machine("1+:.");
        Due.is("outputSize()", x.outputSize(), 0);
        Due.is("outputTotal()", x.outputTotal(), 0);
        Due.is("outputAt(0)", x.outputAt(0), 0);
        for (int round = 1; round <= 25; round++) {
            x.tick(12);
            Due.is("outputTotal()", x.outputTotal(), round);
            Due.is("outputSize()", x.outputSize(), Math.min(round, 20));
            Due.is("outputAt(0)", x.outputAt(0), Math.max(1, round - 19));
            Due.is("outputAt of the last", x.outputAt(Math.min(round, 20) - 1), round);
        }
        for (int i = 0; i < 20; i++) {
            Due.is("outputAt(" + i + ")", x.outputAt(i), i + 6);
        }
        int[] wrong = {-1, 20, 21, 24, MIN, MAX};
        for (int index : wrong) {
            Due.is("outputAt(" + index + ")", x.outputAt(index), 0);
        }
        x.rewind();
        Due.is("outputTotal() of a new run", x.outputTotal(), 0);
        Due.is("outputAt(0) of a new run", x.outputAt(0), 0);
        Due.is("outputSize() of a new run", x.outputSize(), 0);
    }

    private static void promise30TickCount() {
        GridMachine x = Due.machine("12@");
        Due.is("tickCount()", x.tickCount(), 0);
        x.tick(1);
        Due.is("tickCount() behind tick(1)", x.tickCount(), 1);
        x.run(200);
        Due.is("tickCount() behind run(200)", x.tickCount(), 3);
        x.tick(1);
        Due.is("tickCount() of a halted machine", x.tickCount(), 3);
        x.undo();
        Due.is("tickCount() behind undo()", x.tickCount(), 1);
        x.rewind();
        Due.is("tickCount() behind rewind()", x.tickCount(), 0);
    }

    private static void promise31Save() {
        GridMachine x = busy();
        String before = Due.look(x);
        int[] wrong = {-1, 2, MIN, MAX};
        for (int slot : wrong) {
            Due.is("save(" + slot + ")", x.save(slot), -1);
        }
        Due.is("save(0)", x.save(0), 8);
        Due.same("save(0) changes nothing else", Due.look(x), before);
        Due.is("restore(1) of an empty slot", x.restore(1), -2);
        x.tick(5);
        Due.is("save(1)", x.save(1), 13);
        Due.is("save(0) once more", x.save(0), 13);
        x.rewind();
        Due.is("restore(0)", x.restore(0), 13);
    }

    private static void promise32Restore() {
        GridMachine x = busy();
        int[] wrong = {-1, 2, MIN, MAX};
        for (int slot : wrong) {
            Due.is("restore(" + slot + ")", x.restore(slot), -1);
        }
        Due.is("restore(0) of an empty slot", x.restore(0), -2);
        Due.is("restore of an empty slot keeps the saved states", x.undoDepth(), 6);
        String before = lookAtState(x);
        x.save(0);
        Due.type(x, "other");
        x.load();
        Due.type(x, "pq");
        Due.is("restore(0)", x.restore(0), 8);
        Due.same("restore(0)", Due.look(x), before + " undo 0");
        Due.is("restore(0): undo()", x.undo(), -2);
        Due.is("restore(0) keeps the text", x.clearText(), 2);
        x.tick(4);
        Due.is("restore(0) again", x.restore(0), 8);
        Due.same("restore(0) again", Due.look(x), before + " undo 0");
    }

    private static void promise32RestoreOfTheOtherSlot() {
        GridMachine x = busy();
        x.save(0);
        x.tick(3);
        x.feed(77);
        String later = lookAtState(x);
        x.save(1);
        Due.type(x, "other");
        x.load();
        Due.is("restore(0)", x.restore(0), 8);
        Due.is("restore(1)", x.restore(1), 11);
        Due.same("restore(1)", Due.look(x), later + " undo 0");
        x.rewind();
        Due.is("restore brings the loaded program back", x.cellAt(0, 0), '1');
        Due.is("restore: undoDepth() behind rewind()", x.undoDepth(), 1);
        Due.is("restore: undo() of rewind()", x.undo(), 0);
        Due.same("restore: undo() of rewind()", Due.look(x), later + " undo 0");
    }

    private static void promise33UndoDepth() {
        GridMachine x = Due.machine(RING);
        int[] due = {2, 3, 4, 5, 6, 6, 6};
        Due.is("undoDepth()", x.undoDepth(), 1);
        for (int depth : due) {
            x.tick(1);
            Due.is("undoDepth()", x.undoDepth(), depth);
        }
        for (int depth = 5; depth >= 0; depth--) {
            Due.is("undo()", x.undo(), depth);
            Due.is("undoDepth()", x.undoDepth(), depth);
        }
        Due.is("undo() of none", x.undo(), -2);
        Due.is("undoDepth() of none", x.undoDepth(), 0);
        Due.is("the oldest state that is kept", x.tickCount(), 1);
        x.save(0);
        x.setBreakpoint(0, 0, 1);
        x.append(64);
        x.clearText();
        Due.is("undoDepth(): other calls save nothing", x.undoDepth(), 0);
    }

    private static void errorsChangeNothing() {
        GridMachine x = busy();
        for (int i = x.inputSize(); i < 16; i++) {
            x.feed(i);
        }
        while (x.append(65) != -3) {
            continue;
        }
        String before = Due.look(x);
        int[] answers = {x.append(-1), x.append(65), x.feed(1), x.poke(12, 0, 65), x.poke(0, 6, 65), x.poke(0, 0, 31),
            x.tick(0), x.tick(201), x.run(0), x.run(201), x.setBreakpoint(0, 0, 2), x.setBreakpoint(3, 3, 1),
            x.save(2), x.restore(2), x.restore(0), x.load()};
        int[] due = {-1, -3, -3, -1, -1, -1, -1, -1, -1, -1, -1, -2, -1, -1, -2, -22};
        for (int i = 0; i < due.length; i++) {
            Due.is("wrong call " + i, answers[i], due[i]);
        }
        Due.same("calls that answer an error code", Due.look(x), before);
        Due.is("the text stays", x.clearText(), 90);
        GridMachine halted = Due.ticked("12@", 3);
        String still = Due.look(halted);
        Due.is("tick(1)", halted.tick(1), -2);
        Due.is("run(1)", halted.run(1), -2);
        Due.same("calls of a halted machine", Due.look(halted), still);
    }
}
