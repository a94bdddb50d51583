import java.util.function.IntFunction;
import java.util.function.ToIntFunction;

/** The boundary cases of the calls that only read: promises 15 to 30. */
final class EdgesOfAnswers {
    private static final int MIN = Edge.MIN;
    private static final int MAX = Edge.MAX;
    private static final int COUNTED = 45;

    private EdgesOfAnswers() {
    }

    static void all() {
        promise15Corners();
        promise15OutOfRange();
        promise16Counts();
        promise17Counts();
        promise18Places();
        promises19To25Pointers();
        promise19Positions();
        promise20Directions();
        promise21Statuses();
        promise22Sleeps();
        promise23StackCounts();
        promise24Stacks();
        promise25Values();
        promise26Queue();
        promise27Sizes();
        promise28Values();
        promise28NoSuchValue();
        promise29Totals();
        promise30Ticks();
        promises29And30LastCall();
        theConstants();
    }

    private static void promise15Corners() {
        Edge.says(15, "The grid has 12 columns (x from 0, left to right) and 6 rows (y from 0, top to bottom).");
        GridMachine x = Due.machine("a          b\n\n\n\n\nc          d");
        Edge.is("cellAt(0, 0)", x.cellAt(0, 0), 'a');
        Edge.is("cellAt(11, 0)", x.cellAt(11, 0), 'b');
        Edge.is("cellAt(0, 5)", x.cellAt(0, 5), 'c');
        Edge.is("cellAt(11, 5)", x.cellAt(11, 5), 'd');
        Edge.says(15, "Each cell holds a character code from 32 to 126.");
        GridMachine y = Due.machine(" ~");
        Edge.is("cellAt(0, 0), the least", y.cellAt(0, 0), 32);
        Edge.says(15, "Returns the code");
        Edge.is("cellAt(1, 0), the greatest", y.cellAt(1, 0), 126);
        Edge.says(15, "Returns the code of a cell of the grid.");
        y.poke(0, 0, 65);
        Edge.is("cellAt(0, 0) of the grid, not of the program", y.cellAt(0, 0), 65);
        Edge.changesNothing("cellAt(3, 3)", Makings::full, z -> z.cellAt(3, 3), 32);
    }

    private static void refusesCell(int column, int row) {
        String what = "cellAt(" + column + ", " + row + ")";
        Edge.is(what, new GridMachine().cellAt(column, row), -1);
        Edge.changesNothing(what + " of a full machine", Makings::full, x -> x.cellAt(column, row), -1);
    }

    private static void promise15OutOfRange() {
        int[] columns = {-1, 12, MIN, MAX};
        int[] rows = {-1, 6, MIN, MAX};
        Edge.says(15, "`x`: column, 0 to 11");
        for (int column : columns) {
            refusesCell(column, 0);
            refusesCell(column, 5);
        }
        Edge.says(15, "`y`: row, 0 to 5");
        for (int row : rows) {
            refusesCell(0, row);
            refusesCell(11, row);
        }
        Edge.says(15, "INVALID_ARGUMENT if x or y is out of range.");
        refusesCell(-1, 1);
        refusesCell(12, -1);
        refusesCell(-1, -1);
        refusesCell(12, 6);
    }

    private static void promise16Counts() {
        Edge.says(16, "Counts the cells of the grid that differ from the loaded program.");
        GridMachine x = Due.machine("a\n\n\n\n\n           b");
        Edge.is("changedCells() of none", x.changedCells(), 0);
        x.poke(0, 0, 'a');
        Edge.is("changedCells() of the same code", x.changedCells(), 0);
        x.poke(0, 0, 'c');
        Edge.is("changedCells() of the first cell", x.changedCells(), 1);
        x.poke(11, 5, 'c');
        Edge.is("changedCells() of the first and the last cell", x.changedCells(), 2);
        x.poke(0, 0, 'a');
        Edge.is("changedCells() of the last cell", x.changedCells(), 1);
        Edge.says(16, "Returns the number of such cells.");
        GridMachine all = new GridMachine();
        for (int cell = 0; cell < 72; cell++) {
            Edge.is("changedCells() of " + cell, all.changedCells(), cell);
            all.poke(cell % 12, cell / 12, 126);
        }
        Edge.is("changedCells() of all", all.changedCells(), 72);
        all.rewind();
        Edge.is("changedCells() of a new run", all.changedCells(), 0);
        Edge.changesNothing("changedCells()", Makings::busy, GridMachine::changedCells, 1);
    }

    private static void promise17Counts() {
        Edge.says(17, "Counts the pointers, running or not.");
        Edge.is("pointerCount() of a new object", new GridMachine().pointerCount(), 1);
        Edge.is("pointerCount() of a stopped pointer", Due.ticked("@", 1).pointerCount(), 1);
        Edge.is("pointerCount() of a faulted pointer", Due.ticked("111111111111", 17).pointerCount(), 1);
        Edge.is("pointerCount() of stopped and faulted", Makings.halted().pointerCount(), 2);
        Edge.says(17, "Returns the number of pointers.");
        GridMachine x = Due.machine("tttt");
        for (int count = 1; count <= 4; count++) {
            Edge.is("pointerCount()", x.pointerCount(), count);
            x.tick(1);
        }
        Edge.is("pointerCount() behind a fourth split", x.pointerCount(), 4);
        Edge.changesNothing("pointerCount()", Makings::full, GridMachine::pointerCount, 4);
    }

    private static void promise18Places() {
        Edge.says(18, "`place`: place in the execution order, from 0");
        GridMachine x = Makings.full();
        int[] due = {0, 3, 2, 1};
        for (int place = 0; place < due.length; place++) {
            Edge.is("pointerAt(" + place + ")", x.pointerAt(place), due[place]);
        }
        Edge.says(18, "INVALID_ARGUMENT if there is no such place.");
        int[] wrong = {-1, 4, 5, MIN, MAX};
        for (int place : wrong) {
            Edge.changesNothing("pointerAt(" + place + ") of four", Makings::full, y -> y.pointerAt(place), -1);
        }
        int[] wrongOfOne = {-1, 1, 2, 3, 4, MIN, MAX};
        for (int place : wrongOfOne) {
            Edge.changesNothing("pointerAt(" + place + ") of one", GridMachine::new, y -> y.pointerAt(place), -1);
        }
        Edge.is("pointerAt(1) of two", Makings.busy().pointerAt(1), 1);
        Edge.is("pointerAt(2) of two", Makings.busy().pointerAt(2), -1);
        Edge.is("pointerAt(3) of two", Makings.busy().pointerAt(3), -1);
        Edge.says(18, "Returns the identifier of a pointer in the execution order.");
        GridMachine rewound = Makings.full();
        rewound.rewind();
        Edge.is("pointerAt(1) of a new run", rewound.pointerAt(1), -1);
        Edge.is("pointerAt(0) of a new run", rewound.pointerAt(0), 0);
        Edge.says(18, "Returns the identifier");
        Edge.changesNothing("pointerAt(3)", Makings::full, y -> y.pointerAt(3), 1);
    }

    /** The first and the last pointer, and those that there are not: below, behind, and far away. */
    private static void pointers(int promise, String name, IntFunction<ToIntFunction<GridMachine>> call) {
        Edge.says(promise, "`pointer`: identifier of a pointer");
        Edge.is(name + " of pointer 0 of four", call.apply(0).applyAsInt(Makings.full()) >= 0 ? 1 : 0, 1);
        Edge.is(name + " of pointer 3 of four", call.apply(3).applyAsInt(Makings.full()) >= 0 ? 1 : 0, 1);
        Edge.is(name + " of pointer 4 of four", call.apply(4).applyAsInt(Makings.full()), -1);
        String refused = "INVALID_ARGUMENT if there is no such pointer" + (promise == 24 ? " or no such stack." : ".");
        Edge.says(promise, refused);
        int[] wrongOfFour = {-1, 4, 5, MIN, MAX};
        for (int pointer : wrongOfFour) {
            String what = name + " of pointer " + pointer + " of four";
            Edge.changesNothing(what, Makings::full, call.apply(pointer), -1);
        }
        int[] wrongOfOne = {-1, 1, 2, 3, 4, MIN, MAX};
        for (int pointer : wrongOfOne) {
            String what = name + " of pointer " + pointer + " of one";
            Edge.changesNothing(what, GridMachine::new, call.apply(pointer), -1);
        }
        GridMachine rewound = Makings.full();
        rewound.rewind();
        Edge.is(name + " of pointer 1 of a new run", call.apply(1).applyAsInt(rewound), -1);
        rewound.undo();
        Edge.is(name + " of pointer 3 behind undo()", call.apply(3).applyAsInt(rewound) >= 0 ? 1 : 0, 1);
    }

    private static void promises19To25Pointers() {
        pointers(19, "position()", pointer -> x -> x.position(pointer));
        pointers(20, "direction()", pointer -> x -> x.direction(pointer));
        pointers(21, "status()", pointer -> x -> x.status(pointer));
        pointers(22, "sleep()", pointer -> x -> x.sleep(pointer));
        pointers(23, "stackCount()", pointer -> x -> x.stackCount(pointer));
        pointers(24, "stackSize(.., 0)", pointer -> x -> x.stackSize(pointer, 0));
        Edge.says(25, "`pointer`: identifier of a pointer");
        Edge.is("valueAt(0, 0, 0)", fourWithValues().valueAt(0, 0, 0), 5);
        Edge.is("valueAt(3, 0, 0)", fourWithValues().valueAt(3, 0, 0), 5);
        Edge.says(25, "0 if there is no such pointer, no such stack or no such value.");
        int[] wrong = {-1, 4, 5, MIN, MAX};
        for (int pointer : wrong) {
            String what = "valueAt(" + pointer + ", 0, 0)";
            Edge.changesNothing(what, EdgesOfAnswers::fourWithValues, x -> x.valueAt(pointer, 0, 0), 0);
        }
    }

    /** Each pointer holds a 5. */
    private static GridMachine fourWithValues() {
        return Due.ticked("5tttv", 5);
    }

    /** Places and identifiers differ here: pointer 3, the last one, has the second place. */
    private static GridMachine four() {
        return Due.ticked("tttv", 4);
    }

    private static void each(String name, int[] due, IntFunction<ToIntFunction<GridMachine>> call) {
        for (int pointer = 0; pointer < due.length; pointer++) {
            Edge.is(name + " of pointer " + pointer, call.apply(pointer).applyAsInt(four()), due[pointer]);
        }
    }

    private static void promise19Positions() {
        Edge.says(19, "Returns the position of a pointer.");
        each("position()", new int[] {15, 8, 10, 0}, pointer -> x -> x.position(pointer));
        Edge.says(19, "Returns 12 times the row plus the column");
        Edge.is("position(0) in the first cell", new GridMachine().position(0), 0);
        Edge.is("position(0) in the last cell", Due.ticked("^\n\n\n\n\n<", 2).position(0), 71);
        Edge.is("position(0) in the last column", Due.ticked("<", 1).position(0), 11);
        Edge.is("position(0) in the last row", Due.ticked("^", 1).position(0), 60);
    }

    private static void promise20Directions() {
        Edge.says(20, "Returns the direction of a pointer.");
        each("direction()", new int[] {1, 2, 2, 2}, pointer -> x -> x.direction(pointer));
        Edge.says(20, "Returns 0 right, 1 down, 2 left, 3 up");
        Edge.is("direction(0) right", Due.ticked(">", 1).direction(0), 0);
        Edge.is("direction(0) down", Due.ticked("v", 1).direction(0), 1);
        Edge.is("direction(0) left", Due.ticked("<", 1).direction(0), 2);
        Edge.is("direction(0) up", Due.ticked("^", 1).direction(0), 3);
    }

    private static void promise21Statuses() {
        Edge.says(21, "Returns the status of a pointer.");
        each("status()", new int[] {0, 0, 0, 0}, pointer -> x -> x.status(pointer));
        Edge.says(21, "Returns 0 running, 1 stopped, 2 faulted");
        Edge.is("status(0) of running", new GridMachine().status(0), 0);
        Edge.is("status(0) of faulted", Makings.halted().status(0), 2);
        Edge.is("status(1) of stopped", Makings.halted().status(1), 1);
        Edge.is("status(0) of sleeping", Due.ticked("9w", 2).status(0), 0);
    }

    private static void promise22Sleeps() {
        Edge.says(22, "Returns the sleep count of a pointer.");
        each("sleep()", new int[] {0, 0, 0, 0}, pointer -> x -> x.sleep(pointer));
        Edge.says(22, "Returns the sleep count");
        for (int turns = 0; turns <= 9; turns++) {
            Edge.is("sleep(0) of " + turns, Due.ticked(turns + "w", 2).sleep(0), turns);
        }
        Edge.is("sleep(0) behind the last turn", Due.ticked("9w", 11).sleep(0), 0);
    }

    private static void promise23StackCounts() {
        Edge.says(23, "Counts the stacks of a pointer.");
        each("stackCount()", new int[] {1, 1, 1, 1}, pointer -> x -> x.stackCount(pointer));
        Edge.says(23, "Returns the number of stacks, 1 to 3");
        int[] counts = {1, 2, 3, 3, 3};
        GridMachine stacks = Due.machine("{{{{");
        for (int count : counts) {
            Edge.is("stackCount(0)", stacks.stackCount(0), count);
            stacks.tick(1);
        }
    }

    private static void promise24Stacks() {
        Edge.says(24, "`stack`: index of the stack in the list of stacks, from 0");
        GridMachine x = Makings.full();
        int[] sizes = {4, 4, 8};
        for (int stack = 0; stack < sizes.length; stack++) {
            Edge.is("stackSize(0, " + stack + ")", x.stackSize(0, stack), sizes[stack]);
        }
        Edge.says(24, "Returns the size of a stack.");
        Edge.is("stackSize(1, 0) of an empty stack", x.stackSize(1, 0), 0);
        Edge.says(24, "Returns the number of values");
        for (int size = 0; size <= 16; size++) {
            Edge.is("stackSize(0, 0) of " + size, Makings.holding(Makings.upTo(size)).stackSize(0, 0), size);
        }
        Edge.says(24, "INVALID_ARGUMENT if there is no such pointer or no such stack.");
        int[] wrongOfThree = {-1, 3, 4, MIN, MAX};
        for (int stack : wrongOfThree) {
            Edge.changesNothing("stackSize(0, " + stack + ") of three", Makings::full, y -> y.stackSize(0, stack), -1);
        }
        int[] wrongOfOne = {-1, 1, 2, 3, MIN, MAX};
        for (int stack : wrongOfOne) {
            Edge.changesNothing("stackSize(0, " + stack + ") of one", GridMachine::new, y -> y.stackSize(0, stack), -1);
        }
        Edge.is("stackSize(4, 3)", x.stackSize(4, 3), -1);
        Edge.is("stackSize(0, 2) of two", Due.ticked("{", 1).stackSize(0, 2), -1);
        Edge.is("stackSize(0, 1) of two", Due.ticked("{", 1).stackSize(0, 1), 0);
        Edge.is("stackSize(0, 2) behind \"}\"", Due.ticked("{{5}", 4).stackSize(0, 2), -1);
    }

    private static void promise25Values() {
        GridMachine x = Makings.full();
        Edge.says(25, "`stack`: index of the stack in the list of stacks, from 0");
        Edge.stack("stack 0", x, 0, 0, 1, 2, 3, 4);
        Edge.stack("stack 1", x, 0, 1, 5, 6, 7, 8);
        Edge.says(25, "`index`: index of the value, from 0 (the one that was pushed first)");
        Edge.stack("stack 2", x, 0, 2, 9, 0, 1, 2, 3, 4, 5, 6);
        Edge.says(25, "Returns a value of a stack.");
        Edge.stack("sixteen values", Makings.holding(Makings.upTo(16)), 0, 0, Makings.upTo(16));
        Edge.says(25, "Returns the value");
        int[] any = {MIN, MIN + 1, -9, -3, -2, -1, 0, 1, MAX};
        Edge.stack("any integers", Makings.holding(any), 0, 0, any);
        Edge.says(25, "0 if there is no such pointer, no such stack or no such value.");
        // The value in the next place is not 0, so an index too far would show it.
        int[][] wrong = {{0, 0, 4}, {0, 1, 4}, {0, 2, 8}, {0, 0, -1}, {0, 1, -1}, {0, 2, -1}, {0, 0, 16}, {0, 2, 16},
            {0, 0, MIN}, {0, 0, MAX}, {0, 2, MIN}, {0, 2, MAX}, {0, -1, 0}, {0, 3, 0}, {0, MIN, 0}, {0, MAX, 0},
            {1, 0, 0}, {1, 1, 0}, {3, 0, 0}, {4, 0, 0}, {-1, 0, 0}, {MIN, MIN, MIN}, {MAX, MAX, MAX}};
        for (int[] call : wrong) {
            String what = "valueAt(" + call[0] + ", " + call[1] + ", " + call[2] + ")";
            Edge.changesNothing(what, Makings::full, y -> y.valueAt(call[0], call[1], call[2]), 0);
        }
        Edge.says(25, "Results that may be any 32-bit integer are read with valueAt() and outputAt(), which return 0 "
                + "where there is no such value; use stackSize() and outputSize() to tell.");
        Edge.is("valueAt(0, 0, 0) of an empty stack", new GridMachine().valueAt(0, 0, 0), 0);
        Edge.is("valueAt(0, 0, 0) of a popped value", Due.ticked("5$", 2).valueAt(0, 0, 0), 0);
        Edge.is("valueAt(0, 1, 0) of a discarded stack", Due.ticked("{770}", 5).valueAt(0, 1, 0), 0);
        Edge.is("valueAt(0, 0, 0) of a discarded stack", Due.ticked("{770}", 5).valueAt(0, 0, 0), 0);
    }

    private static void promise26Queue() {
        Edge.says(26, "Returns the length of the input queue.");
        GridMachine x = new GridMachine();
        for (int size = 0; size <= 16; size++) {
            Edge.is("inputSize() of " + size, x.inputSize(), size);
            x.feed(size);
        }
        Edge.is("inputSize() behind a refused feed()", x.inputSize(), 16);
        Edge.says(26, "Returns the number of values in the queue.");
        for (int size = 15; size >= 0; size--) {
            Makings.perform(x, "~$");
            Edge.is("inputSize() of " + size, x.inputSize(), size);
        }
        Makings.perform(x, "~");
        Edge.is("inputSize() behind \"~\" of an empty queue", x.inputSize(), 0);
        Edge.changesNothing("inputSize()", Makings::full, GridMachine::inputSize, 16);
    }

    /** Counts up to 45 and outputs each number. */
    private static void counting(ToIntFunction<GridMachine> call, IntFunction<Integer> due) {
        GridMachine x = Due.machine("1+:.");
        for (int count = 1; count <= COUNTED; count++) {
            x.tick(count == 1 ? 4 : 12);
            Edge.is("behind the value " + count, call.applyAsInt(x), due.apply(count));
        }
    }

    private static void promise27Sizes() {
        Edge.says(27, "Returns the size of the output.");
        Edge.is("outputSize() of a new object", new GridMachine().outputSize(), 0);
        Edge.changesNothing("outputSize()", Makings::full, GridMachine::outputSize, 20);
        Edge.says(27, "Returns the number of values that the output keeps, 0 to 20.");
        counting(GridMachine::outputSize, count -> Math.min(count, 20));
        GridMachine rewound = Makings.full();
        rewound.rewind();
        Edge.is("outputSize() of a new run", rewound.outputSize(), 0);
    }

    private static void promise28Values() {
        Edge.says(28, "The output keeps the 20 values that were appended last; older ones are dropped.");
        counting(x -> x.outputAt(0), count -> Math.max(1, count - 19));
        counting(x -> x.outputAt(x.outputSize() - 1), count -> count);
        Edge.says(28, "`index`: index of a value that the output keeps, from 0 (the oldest one)");
        GridMachine x = Due.machine("1+:.");
        x.tick(200);
        x.tick(56);
        for (int i = 0; i < 20; i++) {
            Edge.is("outputAt(" + i + ") of 22", x.outputAt(i), 3 + i);
        }
        Edge.says(28, "Returns a value of the output.");
        Edge.is("outputAt(1)", Due.ticked("5.6.", 4).outputAt(1), 6);
        Edge.changesNothing("outputAt(19)", Makings::full, y -> y.outputAt(19), 1);
        Edge.says(28, "Returns the value");
        int[] any = {MIN, -9, -1, 0, 1, MAX};
        GridMachine y = Due.machine("~.~.~.~.~.~.");
        for (int value : any) {
            y.feed(value);
        }
        y.tick(12);
        Edge.output("any integers", y, any);
    }

    private static void promise28NoSuchValue() {
        Edge.says(28, "0 if there is no such value.");
        int[] wrong = {-1, 20, 21, 24, MIN, MAX};
        for (int index : wrong) {
            Edge.changesNothing("outputAt(" + index + ") of 20", Makings::full, x -> x.outputAt(index), 0);
        }
        int[] wrongOfNone = {-1, 0, 1, 19, 20, MIN, MAX};
        for (int index : wrongOfNone) {
            Edge.changesNothing("outputAt(" + index + ") of none", GridMachine::new, x -> x.outputAt(index), 0);
        }
        counting(x -> x.outputAt(x.outputSize()), count -> 0);
        GridMachine rewound = Makings.full();
        rewound.rewind();
        Edge.is("outputAt(0) of a new run", rewound.outputAt(0), 0);
        Edge.is("outputAt(19) of a new run", rewound.outputAt(19), 0);
    }

    private static void promise29Totals() {
        Edge.says(29, "Returns the number of values ever appended to the output in this run, dropped ones included.");
        counting(GridMachine::outputTotal, count -> count);
        Edge.says(29, "Returns that number.");
        Edge.is("outputTotal() of a new object", new GridMachine().outputTotal(), 0);
        Edge.changesNothing("outputTotal()", Makings::full, GridMachine::outputTotal, 25);
        GridMachine x = Makings.full();
        x.rewind();
        Edge.is("outputTotal() of a new run", x.outputTotal(), 0);
        x.undo();
        Edge.is("outputTotal() behind undo()", x.outputTotal(), 25);
    }

    private static void promise30Ticks() {
        Edge.says(30, "Returns the number of ticks performed since the run began.");
        Edge.is("tickCount() of a new object", new GridMachine().tickCount(), 0);
        GridMachine x = Due.machine("12@");
        x.tick(2);
        Edge.is("tickCount() behind two", x.tickCount(), 2);
        x.tick(200);
        Edge.is("tickCount() behind the halt", x.tickCount(), 3);
        x.tick(200);
        x.run(200);
        Edge.is("tickCount() behind refused calls", x.tickCount(), 3);
        Edge.says(30, "Returns that number.");
        x.rewind();
        Edge.is("tickCount() of a new run", x.tickCount(), 0);
        x.undo();
        Edge.is("tickCount() behind undo()", x.tickCount(), 3);
        x.load();
        Edge.is("tickCount() of a new program", x.tickCount(), 0);
        Edge.changesNothing("tickCount()", Makings::full, GridMachine::tickCount, 85);
    }

    private static void promises29And30LastCall() {
        Edge.says(30, "An object is used for at most 512 calls after it has been made; what later calls answer is "
                + "free.");
        GridMachine x = new GridMachine();
        for (int i = 0; i < 511; i++) {
            x.tick(200);
        }
        Edge.is("tickCount() as the 512th call", x.tickCount(), 511 * 200);
        Edge.says(29, "Returns the number of values ever appended to the output in this run, dropped ones included.");
        GridMachine y = new GridMachine();
        // Four pointers that all output in each tick of the last 495 calls.
        y.poke(0, 0, 't');
        y.poke(1, 0, 't');
        y.poke(2, 0, 't');
        y.tick(3);
        for (int column = 0; column < 12; column++) {
            y.poke(column, 0, '.');
        }
        for (int i = 0; i < 495; i++) {
            y.tick(200);
        }
        Edge.is("outputTotal() as the 512th call", y.outputTotal(), 495 * 200 * 4);
    }

    private static void theConstants() {
        Edge.says(1, "`INVALID_ARGUMENT = -1`: An argument is out of range.");
        Edge.is("INVALID_ARGUMENT", GridMachine.INVALID_ARGUMENT, -1);
        Edge.says(1, "`ILLEGAL_STATE = -2`: The call is not possible in the present state.");
        Edge.is("ILLEGAL_STATE", GridMachine.ILLEGAL_STATE, -2);
        Edge.says(1, "`CAPACITY_EXCEEDED = -3`: The text or the input queue is full.");
        Edge.is("CAPACITY_EXCEEDED", GridMachine.CAPACITY_EXCEEDED, -3);
        Edge.says(1, "`NONE = -9`: There is no such value.");
        Edge.is("NONE", GridMachine.NONE, -9);
    }
}
