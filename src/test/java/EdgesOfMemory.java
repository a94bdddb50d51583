import java.util.function.ToIntFunction;

/** The boundary cases of undo and of the snapshots: promises 11, 31, 32 and 33, and the calls that save a state. */
final class EdgesOfMemory {
    private static final int MIN = Edge.MIN;
    private static final int MAX = Edge.MAX;
    private static final int[] WRONG_SLOTS = {-1, 2, MIN, MAX};

    private EdgesOfMemory() {
    }

    static void all() {
        promise11NoneSaved();
        promise11StillSaved();
        promise11Seventh();
        promise11EachCallSaves();
        promise11OtherCallsDoNot();
        promise11StateComesBack();
        promise11NotPartOfTheState();
        promise31Slots();
        promise31SlotOutOfRange();
        promise31CopyStays();
        promise32SlotOutOfRange();
        promise32EmptySlot();
        promise32SavedStatesAreDiscarded();
        promise32CopyStays();
        promise32NotPartOfTheState();
        promise33Depths();
    }

    private static GridMachine pokedTimes(int times) {
        GridMachine x = new GridMachine();
        for (int i = 1; i <= times; i++) {
            x.poke(0, 0, 40 + i);
        }
        return x;
    }

    private static void promise11NoneSaved() {
        Edge.says(11, "ILLEGAL_STATE if none was saved.");
        Edge.changesNothing("undo() of a new object", GridMachine::new, GridMachine::undo, -2);
        GridMachine x = pokedTimes(1);
        Edge.is("undo() of one", x.undo(), 0);
        Edge.is("undo() of none", x.undo(), -2);
        Edge.is("undo() of none again", x.undo(), -2);
        Edge.is("cellAt(0, 0)", x.cellAt(0, 0), 32);
        Edge.changesNothing("undo() when all are undone", EdgesOfMemory::busyUndone, GridMachine::undo, -2);
        Edge.changesNothing("undo() behind restore()", EdgesOfMemory::busyRestored, GridMachine::undo, -2);
    }

    private static GridMachine busyUndone() {
        GridMachine x = Makings.busy();
        for (int i = 0; i < 6; i++) {
            x.undo();
        }
        return x;
    }

    private static GridMachine busyRestored() {
        GridMachine x = Makings.busy();
        x.restore(1);
        return x;
    }

    private static void promise11StillSaved() {
        Edge.says(11, "Returns the number of states that are still saved");
        for (int saved = 1; saved <= 6; saved++) {
            GridMachine x = pokedTimes(saved);
            for (int left = saved - 1; left >= 0; left--) {
                Edge.is("undo() of " + (left + 1), x.undo(), left);
                Edge.is("cellAt(0, 0) behind it", x.cellAt(0, 0), left == 0 ? 32 : 40 + left);
            }
            Edge.is("undo() of none", x.undo(), -2);
        }
        Edge.says(11, "Restores the most recently saved state.");
        GridMachine y = pokedTimes(2);
        y.undo();
        y.poke(0, 0, 90);
        Edge.is("undo() of a call behind undo()", y.undo(), 1);
        Edge.is("cellAt(0, 0)", y.cellAt(0, 0), 41);
    }

    private static void promise11Seventh() {
        Edge.says(11, "At most 6 states are saved; when a seventh is saved, the oldest one is discarded.");
        for (int saved = 6; saved <= 15; saved++) {
            GridMachine x = pokedTimes(saved);
            Edge.is("undoDepth() of " + saved, x.undoDepth(), 6);
            for (int left = 5; left >= 0; left--) {
                Edge.is("undo() of " + saved, x.undo(), left);
            }
            Edge.is("undo() of none", x.undo(), -2);
            Edge.is("the oldest of " + saved, x.cellAt(0, 0), saved == 6 ? 32 : 40 + saved - 6);
        }
    }

    private static void saves(String call, ToIntFunction<GridMachine> performed) {
        GridMachine x = Makings.busy();
        // Fewer than six, so that the depth shows what is saved.
        x.undo();
        x.undo();
        int depth = x.undoDepth();
        Edge.is(call + ": saved before", depth, 4);
        String before = Edge.lookAtState(x);
        Edge.is(call + " succeeds", performed.applyAsInt(x) >= 0 ? 1 : 0, 1);
        Edge.is(call + ": undoDepth()", x.undoDepth(), depth + 1);
        Edge.is(call + ": undo()", x.undo(), depth);
        Edge.same(call + ": undo()", Edge.lookAtState(x), before);
    }

    private static void promise11EachCallSaves() {
        Edge.says(11, "Every successful call of load(), rewind(), feed(), poke(), tick() and run() saves the state "
                + "that preceded it; undo() restores the most recently saved state and discards it.");
        saves("load()", GridMachine::load);
        saves("rewind()", GridMachine::rewind);
        saves("feed(0)", x -> x.feed(0));
        saves("poke(5, 5, 81)", x -> x.poke(5, 5, 81));
        saves("poke(11, 5, 32) of the same code", x -> x.poke(11, 5, 32));
        saves("tick(1)", x -> x.tick(1));
        saves("tick(200)", x -> x.tick(200));
        saves("run(1)", x -> x.run(1));
        saves("run(200)", x -> x.run(200));
    }

    private static void savesNothing(String call, ToIntFunction<GridMachine> performed) {
        GridMachine x = pokedTimes(3);
        performed.applyAsInt(x);
        Edge.is(call + ": undoDepth()", x.undoDepth(), 3);
        Edge.is(call + ": undo()", x.undo(), 2);
        Edge.is(call + ": cellAt(0, 0) behind undo()", x.cellAt(0, 0), 42);
    }

    private static void promise11OtherCallsDoNot() {
        Edge.says(11, "A call that returns an error code changes nothing.");
        savesNothing("load() of an invalid text", x -> x.append(31) + x.load());
        savesNothing("poke(12, 0, 65)", x -> x.poke(12, 0, 65));
        savesNothing("tick(0)", x -> x.tick(0));
        savesNothing("run(201)", x -> x.run(201));
        savesNothing("save(2)", x -> x.save(2));
        savesNothing("restore(0) of an empty slot", x -> x.restore(0));
        savesNothing("restore(2)", x -> x.restore(2));
        Edge.says(11, "Every successful call of load(), rewind(), feed(), poke(), tick() and run() saves the state");
        savesNothing("append(65)", x -> x.append(65));
        savesNothing("clearText()", GridMachine::clearText);
        savesNothing("setBreakpoint(0, 0, 1)", x -> x.setBreakpoint(0, 0, 1));
        savesNothing("save(0)", x -> x.save(0));
        savesNothing("ticksToHalt(200)", x -> x.ticksToHalt(200));
        savesNothing("cycleStart(200)", x -> x.cycleStart(200));
        savesNothing("cycleLength(200)", x -> x.cycleLength(200));
    }

    private static void promise11StateComesBack() {
        Edge.says(11, "The state consists of the loaded program, the grid, the pointers and their order, the input "
                + "queue, the output with the number of all values ever appended, and the number of ticks performed "
                + "since the run began.");
        GridMachine x = Makings.full();
        x.clearText();
        Edge.is("load()", x.load(), 0);
        Edge.is("undo()", x.undo(), 5);
        Edge.same("undo() of load()", Edge.lookAtState(x), Edge.lookAtState(Makings.full()));
        GridMachine queue = Makings.full();
        queue.clearText();
        queue.load();
        queue.undo();
        Edge.same("undo() of load(): the queue", Edge.lookAtQueue(queue), Edge.lookAtQueue(Makings.full()));
        GridMachine program = Makings.full();
        program.clearText();
        program.load();
        program.undo();
        program.rewind();
        Edge.is("undo() of load(): the loaded program", program.cellAt(3, 0), 'v');
        // The values that "~" took come back, and in their order.
        GridMachine taken = Due.machine("~~");
        for (int i = 0; i < 16; i++) {
            taken.feed(60 + i);
        }
        taken.tick(2);
        Edge.is("undo() of ticks that took values", taken.undo(), 5);
        Edge.is("inputSize() behind it", taken.inputSize(), 16);
        Edge.same("the queue behind it", Edge.lookAtQueue(taken),
                "queue 60 61 62 63 64 65 66 67 68 69 70 71 72 73 74 75");
        GridMachine halted = Due.ticked("1@", 1);
        halted.tick(1);
        Edge.is("undo() of the tick that halted it", halted.undo(), 2);
        Edge.is("it runs again", halted.tick(200), 1);
    }

    private static void promise11NotPartOfTheState() {
        Edge.says(11, "The text, the breakpoints, the undo history and the snapshots are not part of the state.");
        GridMachine x = Due.machine("12");
        x.append(65);
        x.feed(1);
        x.append(66);
        x.setBreakpoint(0, 0, 1);
        x.save(0);
        x.undo();
        Edge.is("the text stays", x.clearText(), 2);
        Edge.is("the breakpoint stays", x.setBreakpoint(0, 0, 0), 0);
        Edge.is("the snapshot stays", x.restore(0), 0);
        Edge.is("the snapshot has the value that undo() took back", x.inputSize(), 1);
        GridMachine loaded = new GridMachine();
        loaded.append(65);
        loaded.load();
        loaded.undo();
        Edge.is("the text that load() took does not come back", loaded.clearText(), 0);
    }

    private static void promise31Slots() {
        Edge.says(31, "There are two snapshot slots, 0 and 1.");
        GridMachine x = new GridMachine();
        x.poke(0, 0, 'a');
        Edge.is("save(0)", x.save(0), 0);
        x.poke(0, 0, 'b');
        Edge.is("save(1)", x.save(1), 0);
        x.poke(0, 0, 'c');
        Edge.is("restore(0)", x.restore(0), 0);
        Edge.is("cellAt(0, 0) of slot 0", x.cellAt(0, 0), 'a');
        Edge.is("restore(1)", x.restore(1), 0);
        Edge.is("cellAt(0, 0) of slot 1", x.cellAt(0, 0), 'b');
        Edge.says(31, "`slot`: 0 or 1");
        Edge.is("save(0) of a new object", new GridMachine().save(0), 0);
        Edge.is("save(1) of a new object", new GridMachine().save(1), 0);
        Edge.says(31, "Returns the number of ticks performed since the run began");
        int[] ticks = {1, 199, 200};
        for (int count : ticks) {
            GridMachine y = new GridMachine();
            y.tick(count);
            Edge.is("save(0) behind " + count + " ticks", y.save(0), count);
            y.tick(200);
            Edge.is("save(1) behind 200 more", y.save(1), count + 200);
        }
    }

    private static void promise31SlotOutOfRange() {
        Edge.says(31, "INVALID_ARGUMENT if slot is neither 0 nor 1.");
        for (int slot : WRONG_SLOTS) {
            Edge.changesNothingAnywhere("save(" + slot + ")", x -> x.save(slot), -1);
        }
    }

    private static void promise31CopyStays() {
        Edge.says(31, "Copies the state into a snapshot slot.");
        GridMachine x = Makings.full();
        x.save(0);
        x.rewind();
        x.feed(1);
        x.restore(0);
        Edge.same("a full state", Edge.lookAtState(x), Edge.lookAtState(Makings.full()));
        GridMachine empty = new GridMachine();
        String none = Edge.lookAtState(empty);
        empty.save(1);
        empty.poke(11, 5, 64);
        empty.feed(4);
        empty.tick(7);
        empty.restore(1);
        Edge.same("a new state", Edge.lookAtState(empty), none);
        GridMachine taken = Due.machine("~");
        taken.feed(61);
        taken.feed(62);
        taken.save(0);
        taken.tick(1);
        taken.save(1);
        taken.restore(0);
        Edge.same("the queue of slot 0", Edge.lookAtQueue(taken), "queue 61 62");
        taken.restore(1);
        Edge.same("the queue of slot 1", Edge.lookAtQueue(taken), "queue 62");
        GridMachine over = new GridMachine();
        over.save(0);
        over.tick(3);
        Edge.is("save(0) over another", over.save(0), 3);
        over.tick(4);
        Edge.is("restore(0)", over.restore(0), 3);
        GridMachine full = Makings.full();
        Edge.is("save(1) of a full machine", full.save(1), 85);
        Edge.is("save(1) leaves the saved states", full.undoDepth(), 6);
        Edge.is("save(0) leaves slot 1 empty", saved().restore(1), -2);
    }

    private static GridMachine saved() {
        GridMachine x = new GridMachine();
        x.save(0);
        return x;
    }

    private static void promise32SlotOutOfRange() {
        Edge.says(32, "`slot`: 0 or 1");
        Edge.is("restore(0)", Makings.full().restore(0), 82);
        Edge.is("restore(1)", Makings.full().restore(1), 82);
        Edge.says(32, "INVALID_ARGUMENT if slot is neither 0 nor 1");
        for (int slot : WRONG_SLOTS) {
            Edge.changesNothingAnywhere("restore(" + slot + ")", x -> x.restore(slot), -1);
        }
    }

    private static void promise32EmptySlot() {
        Edge.says(32, "ILLEGAL_STATE if the slot is empty.");
        Edge.changesNothing("restore(0) of a new object", GridMachine::new, x -> x.restore(0), -2);
        Edge.changesNothing("restore(1) of a new object", GridMachine::new, x -> x.restore(1), -2);
        Edge.changesNothing("restore(1) when slot 0 is taken", EdgesOfMemory::saved, x -> x.restore(1), -2);
        Edge.changesNothing("restore(0) when slot 1 is taken", Makings::busy, x -> x.restore(0), -2);
        Edge.changesNothing("restore(1) of a halted machine", Makings::halted, x -> x.restore(1), -2);
        GridMachine x = new GridMachine();
        x.load();
        x.rewind();
        Edge.is("load() and rewind() fill no slot", x.restore(0), -2);
        Edge.is("undoDepth() behind it", x.undoDepth(), 2);
    }

    private static void promise32SavedStatesAreDiscarded() {
        Edge.says(32, "All states saved for undo() are discarded.");
        for (int depth = 0; depth <= 6; depth++) {
            GridMachine x = new GridMachine();
            x.save(1);
            for (int i = 0; i < depth; i++) {
                x.poke(0, 0, 65 + i);
            }
            Edge.is("restore(1) with " + depth + " saved", x.restore(1), 0);
            Edge.is("undoDepth()", x.undoDepth(), 0);
            Edge.is("undo()", x.undo(), -2);
            Edge.is("cellAt(0, 0)", x.cellAt(0, 0), 32);
            x.poke(0, 0, 90);
            Edge.is("undoDepth() behind the next call", x.undoDepth(), 1);
            Edge.is("undo() of it", x.undo(), 0);
            Edge.is("cellAt(0, 0) behind it", x.cellAt(0, 0), 32);
        }
    }

    private static void promise32CopyStays() {
        Edge.says(32, "Replaces the state by a copy of the one in a snapshot slot, which is kept.");
        GridMachine once = Makings.full();
        once.restore(1);
        GridMachine x = Makings.full();
        x.restore(1);
        x.rewind();
        x.poke(0, 0, 33);
        x.tick(200);
        Edge.is("restore(1) again", x.restore(1), 82);
        Edge.same("restore(1) again", Edge.lookAtState(x), Edge.lookAtState(once));
        GridMachine queue = Makings.full();
        queue.restore(1);
        Edge.same("the queue of restore(1)", Edge.lookAtQueue(queue), "queue 100 101 102 103 104 105 106 107");
        queue.restore(0);
        Edge.same("the queue of restore(0)", Edge.lookAtQueue(queue), "queue");
        Edge.says(32, "Returns the number of ticks performed since that run began");
        GridMachine y = new GridMachine();
        y.save(0);
        y.tick(200);
        y.tick(1);
        y.save(1);
        y.rewind();
        Edge.is("restore(1)", y.restore(1), 201);
        Edge.is("tickCount()", y.tickCount(), 201);
        Edge.is("restore(0)", y.restore(0), 0);
        Edge.is("tickCount()", y.tickCount(), 0);
    }

    private static void promise32NotPartOfTheState() {
        Edge.says(32, "The text, the breakpoints, the undo history and the snapshots are not part of the state.");
        GridMachine x = Due.machine("12");
        x.save(0);
        x.tick(1);
        x.save(1);
        x.append(65);
        x.setBreakpoint(11, 5, 1);
        x.restore(0);
        Edge.is("the text stays", x.clearText(), 1);
        Edge.is("the breakpoint stays", x.setBreakpoint(11, 5, 1), -2);
        Edge.is("the other snapshot stays", x.restore(1), 1);
        GridMachine program = Due.machine("ab");
        program.save(0);
        program.load();
        program.restore(0);
        program.poke(0, 0, 'z');
        program.rewind();
        Edge.is("the loaded program comes back", program.cellAt(0, 0), 'a');
    }

    private static void promise33Depths() {
        Edge.says(33, "Returns the number of saved states.");
        int[] due = {0, 1, 2, 3, 4, 5, 6, 6, 6};
        for (int saved = 0; saved < due.length; saved++) {
            Edge.is("undoDepth() of " + saved, pokedTimes(saved).undoDepth(), due[saved]);
        }
        Edge.says(33, "Returns how many times undo() can succeed in succession.");
        for (int saved = 0; saved < due.length; saved++) {
            GridMachine x = pokedTimes(saved);
            int times = 0;
            while (times <= 7 && x.undo() >= 0) {
                times++;
                Edge.is("undoDepth() behind undo()", x.undoDepth(), due[saved] - times);
            }
            Edge.is("undo() that succeeded, of " + saved, times, due[saved]);
        }
        Edge.changesNothing("undoDepth() of none", GridMachine::new, GridMachine::undoDepth, 0);
        Edge.changesNothing("undoDepth() of six", Makings::full, GridMachine::undoDepth, 6);
    }
}
