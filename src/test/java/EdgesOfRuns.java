/** The boundary cases of input, pokes, ticks, runs and breakpoints: promises 6 to 10. */
final class EdgesOfRuns {
    private static final int MIN = Edge.MIN;
    private static final int MAX = Edge.MAX;
    private static final int[] WRONG_LIMITS = {0, -1, 201, MIN, MAX};
    /** Four rows of five sleeps, 57 ticks each, and then a stop: the machine is halted behind tick 229. */
    static final String HALTS_BEHIND_229 = ">9w9w9w9w9wv\nvw9w9w9w9w9<\n>9w9w9w9w9wv\nvw9w9w9w9w9<\n@";

    private EdgesOfRuns() {
    }

    static void all() {
        promise6AnyInteger();
        promise6FullQueue();
        promise7Cells();
        promise7OutOfRange();
        promise7ProgramStays();
        promise8Limits();
        promise8LimitOutOfRange();
        promise8Halts();
        promise8HaltedMachine();
        promise9Limits();
        promise9HaltedMachine();
        promise9BreakpointReached();
        promise9WhoCounts();
        promise9WhereItBegins();
        promise10Range();
        promise10OutOfRange();
        promise10AsRequested();
        promise10CountOfCells();
    }

    private static GridMachine fed(int count) {
        GridMachine x = new GridMachine();
        for (int i = 0; i < count; i++) {
            x.feed(i);
        }
        return x;
    }

    private static void promise6AnyInteger() {
        Edge.says(6, "`value`: any integer");
        int[] values = {MIN, MIN + 1, -9, -3, -2, -1, 0, 1, 255, 256, 65536, MAX - 1, MAX};
        GridMachine x = Due.machine("~.");
        for (int i = 0; i < values.length; i++) {
            Edge.is("feed(" + values[i] + ")", x.feed(values[i]), i + 1);
        }
        x.tick(12 * values.length);
        Edge.output("the values that were fed", x, values);
        Edge.says(6, "Appends a value to the input queue.");
        GridMachine order = Due.machine("~~~");
        order.feed(5);
        order.feed(6);
        order.tick(1);
        order.feed(7);
        order.tick(2);
        Edge.stack("the first comes first", order, 0, 0, 5, 6, 7);
    }

    private static void promise6FullQueue() {
        Edge.says(6, "The input queue holds at most 16 values.");
        GridMachine x = new GridMachine();
        for (int length = 1; length <= 16; length++) {
            Edge.is("feed(0)", x.feed(0), length);
        }
        Edge.is("feed(0) as the 17th", x.feed(0), -3);
        Edge.is("inputSize()", x.inputSize(), 16);
        Makings.perform(x, "~");
        Edge.says(6, "Returns the new length of the queue");
        Edge.is("feed(1) behind one that was taken", x.feed(1), 16);
        Edge.is("feed(1) to the empty queue", new GridMachine().feed(1), 1);
        Edge.says(6, "CAPACITY_EXCEEDED if it already has 16 values.");
        int[] values = {0, -1, 1, MIN, MAX};
        for (int value : values) {
            Edge.changesNothing("feed(" + value + ")", () -> fed(16), y -> y.feed(value), -3);
            Edge.changesNothing("feed(" + value + ") of a full machine", Makings::full, y -> y.feed(value), -3);
        }
    }

    private static void promise7Cells() {
        Edge.says(7, "`x`: column, 0 to 11");
        GridMachine x = new GridMachine();
        for (int column = 0; column < 12; column++) {
            Edge.is("poke(" + column + ", 0, " + (40 + column) + ")", x.poke(column, 0, 40 + column), 32);
        }
        Edge.says(7, "`y`: row, 0 to 5");
        for (int cell = 12; cell < 72; cell++) {
            Edge.is("poke() of cell " + cell, x.poke(cell % 12, cell / 12, 40 + cell), 32);
        }
        for (int cell = 0; cell < 72; cell++) {
            Edge.is("cell " + cell, x.cellAt(cell % 12, cell / 12), 40 + cell);
        }
        Edge.says(7, "`code`: character code, 32 to 126");
        for (int code = 32; code <= 126; code++) {
            GridMachine y = Due.machine("A");
            Edge.is("poke(0, 0, " + code + ")", y.poke(0, 0, code), 'A');
            Edge.is("cellAt(0, 0)", y.cellAt(0, 0), code);
        }
        Edge.says(7, "Returns the previous code of the cell");
        GridMachine z = new GridMachine();
        Edge.is("poke(11, 5, 126)", z.poke(11, 5, 126), 32);
        Edge.is("poke(11, 5, 32)", z.poke(11, 5, 32), 126);
        Edge.is("poke(11, 5, 32) of the same code", z.poke(11, 5, 32), 32);
        Edge.is("each of them saved the state", z.undoDepth(), 3);
    }

    private static void promise7OutOfRange() {
        Edge.says(7, "INVALID_ARGUMENT if x, y or code is out of range.");
        int[] columns = {-1, 12, MIN, MAX};
        for (int column : columns) {
            Edge.changesNothingAnywhere("poke(" + column + ", 0, 65)", x -> x.poke(column, 0, 65), -1);
            Edge.is("poke(" + column + ", 5, 65)", new GridMachine().poke(column, 5, 65), -1);
        }
        int[] rows = {-1, 6, MIN, MAX};
        for (int row : rows) {
            Edge.changesNothingAnywhere("poke(0, " + row + ", 65)", x -> x.poke(0, row, 65), -1);
            Edge.is("poke(11, " + row + ", 65)", new GridMachine().poke(11, row, 65), -1);
        }
        int[] codes = {31, 127, 0, 10, -1, MIN, MAX, 65 + 256};
        for (int code : codes) {
            Edge.changesNothingAnywhere("poke(0, 0, " + code + ")", x -> x.poke(0, 0, code), -1);
            Edge.is("poke(11, 5, " + code + ")", new GridMachine().poke(11, 5, code), -1);
        }
        Edge.changesNothingAnywhere("poke(12, 6, 127)", x -> x.poke(12, 6, 127), -1);
        // These would meet a cell if the row and the column were only put together.
        Edge.changesNothingAnywhere("poke(-1, 1, 65)", x -> x.poke(-1, 1, 65), -1);
        Edge.changesNothingAnywhere("poke(12, -1, 65)", x -> x.poke(12, -1, 65), -1);
    }

    private static void promise7ProgramStays() {
        Edge.says(7, "Stores a character in a cell of the grid.");
        GridMachine x = Due.machine("12");
        x.poke(0, 0, '@');
        Edge.is("the poked instruction is executed", x.tick(200), 1);
        Edge.says(7, "The loaded program does not change.");
        Edge.is("changedCells()", x.changedCells(), 1);
        x.rewind();
        Edge.is("cellAt(0, 0) of a new run", x.cellAt(0, 0), '1');
        Edge.is("changedCells() of a new run", x.changedCells(), 0);
    }

    private static void promise8Limits() {
        Edge.says(8, "`limit`: greatest number of ticks, 1 to 200");
        for (int limit = 1; limit <= 200; limit++) {
            GridMachine x = new GridMachine();
            Edge.is("tick(" + limit + ")", x.tick(limit), limit);
            Edge.is("tickCount()", x.tickCount(), limit);
            Edge.is("position(0)", x.position(0), limit % 12);
        }
    }

    private static void promise8LimitOutOfRange() {
        Edge.says(8, "INVALID_ARGUMENT if limit is out of range");
        for (int limit : WRONG_LIMITS) {
            Edge.changesNothingAnywhere("tick(" + limit + ")", x -> x.tick(limit), -1);
        }
    }

    private static GridMachine behind(int ticks) {
        return Due.ticked(HALTS_BEHIND_229, ticks);
    }

    private static void promise8Halts() {
        Edge.says(8, "Performs ticks until the machine is halted, but at most a given number.");
        GridMachine x = behind(30);
        Edge.is("tick(200), 199 before the halt", x.tick(200), 199);
        Edge.is("status(0)", x.status(0), 1);
        GridMachine y = behind(29);
        Edge.is("tick(199), 200 before the halt", y.tick(199), 199);
        Edge.is("status(0)", y.status(0), 0);
        Edge.is("tick(1), one before the halt", y.tick(1), 1);
        Edge.is("status(0)", y.status(0), 1);
        GridMachine z = behind(29);
        Edge.is("tick(200), 200 before the halt", z.tick(200), 200);
        Edge.is("status(0)", z.status(0), 1);
        GridMachine last = behind(28);
        Edge.is("tick(200), 201 before the halt", last.tick(200), 200);
        Edge.is("status(0)", last.status(0), 0);
        Edge.says(8, "Returns the number of ticks performed");
        Edge.is("tick(200), one before the halt", last.tick(200), 1);
        Edge.is("tickCount()", last.tickCount(), 229);
        Edge.is("tick(2) of \"@\"", Due.machine("@").tick(2), 1);
        Edge.is("tick(1) of \"@\"", Due.machine("@").tick(1), 1);
    }

    private static void promise8HaltedMachine() {
        Edge.says(8, "The machine is halted when no pointer is running.");
        GridMachine one = Due.ticked("t@        @", 2);
        Edge.is("one pointer of two is stopped: status(0)", one.status(0), 1);
        Edge.is("one pointer of two is stopped: tick(200)", one.tick(200), 1);
        Edge.is("both are stopped: tick(1)", one.tick(1), -2);
        GridMachine sleeping = Due.ticked("1w@", 2);
        Edge.is("a sleeping pointer is running: tick(1)", sleeping.tick(1), 1);
        Edge.is("a pointer that slept is running: tick(200)", sleeping.tick(200), 1);
        Edge.says(8, "ILLEGAL_STATE if the machine is halted.");
        int[] limits = {1, 2, 200};
        for (int limit : limits) {
            Edge.changesNothing("tick(" + limit + ") of stopped and faulted", Makings::halted, x -> x.tick(limit), -2);
            Edge.changesNothing("tick(" + limit + ") of stopped", () -> behind200(29), x -> x.tick(limit), -2);
        }
        Edge.says(8, "If several error conditions apply, the method returns the one that its description lists first.");
        for (int limit : WRONG_LIMITS) {
            Edge.is("tick(" + limit + ") of a halted machine", Makings.halted().tick(limit), -1);
        }
    }

    private static GridMachine behind200(int ticks) {
        GridMachine x = behind(ticks);
        x.tick(200);
        return x;
    }

    private static void promise9Limits() {
        Edge.says(9, "`limit`: greatest number of ticks, 1 to 200");
        for (int limit = 1; limit <= 200; limit++) {
            GridMachine x = new GridMachine();
            Edge.is("run(" + limit + ")", x.run(limit), limit);
            Edge.is("tickCount()", x.tickCount(), limit);
        }
        Edge.says(9, "INVALID_ARGUMENT if limit is out of range");
        for (int limit : WRONG_LIMITS) {
            Edge.changesNothingAnywhere("run(" + limit + ")", x -> x.run(limit), -1);
        }
    }

    private static void promise9HaltedMachine() {
        Edge.says(9, "Returns the number of ticks performed");
        Edge.is("run(200), 199 before the halt", behind(30).run(200), 199);
        Edge.is("run(200), 200 before the halt", behind(29).run(200), 200);
        Edge.is("run(200), 201 before the halt", behind(28).run(200), 200);
        Edge.is("run(199), 200 before the halt", behind(29).run(199), 199);
        Edge.is("run(200) of \"@\"", Due.machine("@").run(200), 1);
        Edge.says(9, "ILLEGAL_STATE if the machine is halted.");
        int[] limits = {1, 2, 200};
        for (int limit : limits) {
            Edge.changesNothing("run(" + limit + ") of stopped and faulted", Makings::halted, x -> x.run(limit), -2);
            Edge.changesNothing("run(" + limit + ") of stopped", () -> behind200(29), x -> x.run(limit), -2);
        }
        Edge.says(9, "If several error conditions apply, the method returns the one that its description lists first.");
        for (int limit : WRONG_LIMITS) {
            Edge.is("run(" + limit + ") of a halted machine", Makings.halted().run(limit), -1);
        }
    }

    private static GridMachine breakAt(String program, int x, int y) {
        GridMachine machine = Due.machine(program);
        machine.setBreakpoint(x, y, 1);
        return machine;
    }

    private static void promise9BreakpointReached() {
        Edge.says(9, "Performs ticks until the machine is halted or a breakpoint is reached, but at most a given "
                + "number.");
        Edge.is("run(200) to the next cell", breakAt("", 1, 0).run(200), 1);
        Edge.is("run(200) to the last column", breakAt("", 11, 0).run(200), 11);
        Edge.is("run(200) to the last row", breakAt("v", 0, 5).run(200), 5);
        Edge.is("run(200) to the last cell", breakAt("^\n\n\n\n\n<", 11, 5).run(200), 2);
        Edge.is("run(4), five before the breakpoint", breakAt("", 5, 0).run(4), 4);
        Edge.is("run(5), five before the breakpoint", breakAt("", 5, 0).run(5), 5);
        Edge.is("run(6), five before the breakpoint", breakAt("", 5, 0).run(6), 5);
        Edge.is("run(200) past a breakpoint in another row", breakAt("", 5, 1).run(200), 200);
        Edge.is("tick(200) past a breakpoint", breakAt("", 5, 0).tick(200), 200);
        // The pointer skips column 1.
        Edge.is("run(200) over a skipped breakpoint", breakAt("#  @", 1, 0).run(200), 3);
        // The pointer comes to (0, 4) behind tick 228.
        GridMachine late = breakAt(HALTS_BEHIND_229, 0, 4);
        late.tick(28);
        Edge.is("run(199), 200 before the breakpoint", late.run(199), 199);
        late.undo();
        Edge.is("run(200), 200 before the breakpoint", late.run(200), 200);
        Edge.is("position(0)", late.position(0), 48);
        Edge.is("status(0)", late.status(0), 0);
        GridMachine cleared = breakAt("", 5, 0);
        cleared.setBreakpoint(5, 0, 0);
        Edge.is("run(200) past a breakpoint that was cleared", cleared.run(200), 200);
    }

    private static void promise9WhoCounts() {
        Edge.says(9, "A breakpoint is reached if, behind a tick, some running pointer with sleep count 0 is in a cell "
                + "with a breakpoint.");
        Edge.is("a pointer that will sleep three turns", breakAt("3w", 2, 0).run(200), 5);
        Edge.is("a pointer that will sleep one turn", breakAt("1w", 2, 0).run(200), 3);
        Edge.is("a pointer that will sleep no turn", breakAt("0w", 2, 0).run(200), 2);
        GridMachine sleeper = breakAt("9w", 2, 0);
        Edge.is("run(10) ends while it sleeps", sleeper.run(10), 10);
        Edge.is("sleep(0)", sleeper.sleep(0), 1);
        Edge.is("run(200) from there", sleeper.run(200), 1);
        GridMachine stopper = breakAt("1@", 1, 0);
        Edge.is("run(200) to the cell of \"@\"", stopper.run(200), 1);
        Edge.is("run(200): a stopped pointer halts the machine", stopper.run(200), 1);
        // Pointer 1 stops in column 11 in tick 2, and pointer 0 goes round without coming there.
        GridMachine stopped = Due.machine("t> v       @\n ^ <");
        stopped.tick(2);
        stopped.setBreakpoint(11, 0, 1);
        Edge.is("run(200): a stopped pointer does not count", stopped.run(200), 200);
        GridMachine faulted = faultedBeside();
        Edge.is("a faulted pointer: status(1)", faulted.status(1), 2);
        int cell = faulted.position(1);
        faulted.setBreakpoint(cell % 12, cell / 12, 1);
        Edge.is("run(200): a faulted pointer does not count", faulted.run(200), 200);
        GridMachine second = Due.ticked("  t", 2);
        second.setBreakpoint(1, 0, 1);
        Edge.is("run(200): a pointer that is new behind the tick counts", second.run(200), 1);
        Edge.is("run(200): position(1)", second.position(1), 1);
        Edge.is("run(200): position(0)", second.position(0), 3);
    }

    /** Sixteen values, then a split: pointer 1 goes back to a digit, pointer 0 on, to go up and down below row 0. */
    private static GridMachine faultedBeside() {
        GridMachine x = Makings.holding(Makings.upTo(16));
        int column = x.position(0) % 12;
        x.poke((column + 11) % 12, 0, '7');
        x.poke((column + 1) % 12, 0, 'v');
        x.poke((column + 1) % 12, 1, 'v');
        x.poke((column + 1) % 12, 2, 'r');
        Makings.perform(x, "t");
        x.tick(3);
        return x;
    }

    private static void promise9WhereItBegins() {
        Edge.says(9, "Pointers that are in such a cell when run() is called do not count before the first tick.");
        GridMachine x = breakAt("", 0, 0);
        Edge.is("run(200) from a breakpoint", x.run(200), 12);
        Edge.is("run(1) from a breakpoint", x.run(1), 1);
        Edge.is("position(0)", x.position(0), 1);
        GridMachine next = breakAt("", 0, 0);
        next.setBreakpoint(1, 0, 1);
        Edge.is("run(200) from a breakpoint to the next", next.run(200), 1);
        GridMachine sleeping = breakAt("2w", 2, 0);
        sleeping.tick(3);
        Edge.is("a pointer that sleeps its last turn there: sleep(0)", sleeping.sleep(0), 1);
        Edge.is("run(200) counts it behind the first tick", sleeping.run(200), 1);
        Edge.is("position(0)", sleeping.position(0), 2);
        Edge.is("run(200) counts it no more", sleeping.run(200), 14);
    }

    private static void promise10Range() {
        GridMachine x = new GridMachine();
        Edge.says(10, "`x`: column, 0 to 11");
        Edge.is("setBreakpoint(0, 0, 1)", x.setBreakpoint(0, 0, 1), 1);
        Edge.is("setBreakpoint(11, 0, 1)", x.setBreakpoint(11, 0, 1), 2);
        Edge.says(10, "`y`: row, 0 to 5");
        Edge.is("setBreakpoint(0, 5, 1)", x.setBreakpoint(0, 5, 1), 3);
        Edge.is("setBreakpoint(11, 5, 1)", x.setBreakpoint(11, 5, 1), 4);
        Edge.says(10, "`on`: 1 to set it, 0 to clear it");
        Edge.is("setBreakpoint(11, 0, 0)", x.setBreakpoint(11, 0, 0), 3);
        Edge.is("setBreakpoint(11, 5, 0)", x.setBreakpoint(11, 5, 0), 2);
        Edge.is("setBreakpoint(11, 5, 1)", x.setBreakpoint(11, 5, 1), 3);
        Edge.says(10, "Sets or clears a breakpoint.");
        for (int cell = 0; cell < 72; cell++) {
            GridMachine y = new GridMachine();
            y.setBreakpoint(cell % 12, cell / 12, 1);
            for (int other = 0; other < 72; other++) {
                int due = other == cell ? 0 : -2;
                Edge.is("cell " + other + " beside " + cell, y.setBreakpoint(other % 12, other / 12, 0), due);
            }
        }
    }

    private static void promise10OutOfRange() {
        Edge.says(10, "INVALID_ARGUMENT if x, y or on is out of range");
        int[] columns = {-1, 12, MIN, MAX};
        int[] rows = {-1, 6, MIN, MAX};
        int[] switches = {-1, 2, MIN, MAX};
        for (int on = 0; on <= 1; on++) {
            int wanted = on;
            for (int column : columns) {
                String what = "setBreakpoint(" + column + ", 0, " + on + ")";
                Edge.changesNothingAnywhere(what, x -> x.setBreakpoint(column, 0, wanted), -1);
            }
            for (int row : rows) {
                String what = "setBreakpoint(0, " + row + ", " + on + ")";
                Edge.changesNothingAnywhere(what, x -> x.setBreakpoint(0, row, wanted), -1);
            }
            Edge.changesNothingAnywhere("setBreakpoint(-1, 1, " + on + ")", x -> x.setBreakpoint(-1, 1, wanted), -1);
            Edge.changesNothingAnywhere("setBreakpoint(12, -1, " + on + ")", x -> x.setBreakpoint(12, -1, wanted), -1);
        }
        for (int on : switches) {
            Edge.changesNothingAnywhere("setBreakpoint(3, 3, " + on + ")", x -> x.setBreakpoint(3, 3, on), -1);
            Edge.changesNothingAnywhere("setBreakpoint(12, 6, " + on + ")", x -> x.setBreakpoint(12, 6, on), -1);
        }
    }

    private static void promise10AsRequested() {
        Edge.says(10, "ILLEGAL_STATE if it already is as requested.");
        Edge.changesNothing("setBreakpoint(0, 0, 0), never set", GridMachine::new, x -> x.setBreakpoint(0, 0, 0), -2);
        Edge.changesNothing("setBreakpoint(11, 5, 0), never set", Makings::busy, x -> x.setBreakpoint(11, 5, 0), -2);
        Edge.changesNothing("setBreakpoint(3, 3, 1), set", Makings::busy, x -> x.setBreakpoint(3, 3, 1), -2);
        Edge.changesNothing("setBreakpoint(11, 5, 1), set", Makings::full, x -> x.setBreakpoint(11, 5, 1), -2);
        GridMachine x = new GridMachine();
        x.setBreakpoint(4, 4, 1);
        x.setBreakpoint(4, 4, 0);
        Edge.is("setBreakpoint(4, 4, 0), cleared", x.setBreakpoint(4, 4, 0), -2);
        Edge.is("setBreakpoint(4, 4, 1), set again", x.setBreakpoint(4, 4, 1), 1);
        Edge.is("setBreakpoint(4, 4, 1), set twice", x.setBreakpoint(4, 4, 1), -2);
    }

    private static void promise10CountOfCells() {
        Edge.says(10, "Returns the number of cells with a breakpoint afterwards");
        GridMachine x = new GridMachine();
        for (int cell = 0; cell < 72; cell++) {
            Edge.is("setBreakpoint() to 1 of cell " + cell, x.setBreakpoint(cell % 12, cell / 12, 1), cell + 1);
        }
        Edge.is("setBreakpoint(0, 0, 1) with all set", x.setBreakpoint(0, 0, 1), -2);
        Edge.is("run(200) with all set", x.run(200), 1);
        for (int cell = 0; cell < 72; cell++) {
            Edge.is("setBreakpoint() to 0 of cell " + cell, x.setBreakpoint(cell % 12, cell / 12, 0), 71 - cell);
        }
        Edge.is("setBreakpoint(0, 0, 0) with none set", x.setBreakpoint(0, 0, 0), -2);
        Edge.is("run(200) with none set", x.run(200), 200);
    }
}
