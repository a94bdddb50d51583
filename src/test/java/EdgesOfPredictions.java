/** The boundary cases of the predictions: promises 12 to 14. */
final class EdgesOfPredictions {
    private static final int MIN = Edge.MIN;
    private static final int MAX = Edge.MAX;
    private static final int[] WRONG_LIMITS = {0, -1, 201, MIN, MAX};
    /** As the program that halts behind tick 229, but 30 ticks shorter, and from row 3 down to row 0 again. */
    private static final String PERIOD_200 = ">0w0w0w6w9wv\nvw9w9w9w9w9<\n>9w9w9w9w9wv\nvw9w9w9w9w9<";

    private EdgesOfPredictions() {
    }

    static void all() {
        promise12Limits();
        promise12Halts();
        promise12ChangesNothing();
        promise13Limits();
        promise13First();
        promise13Longest();
        promise13Configurations();
        promise13InputQueue();
        promise13Halts();
        promise13ChangesNothing();
        promise14Limits();
        promise14Period();
        promise14None();
        promise14ChangesNothing();
    }

    private static GridMachine behind(int ticks) {
        return Due.ticked(EdgesOfRuns.HALTS_BEHIND_229, ticks);
    }

    private static void promise12Limits() {
        Edge.says(12, "`limit`: greatest number of ticks to try, 1 to 200");
        GridMachine x = Due.machine("@");
        Edge.is("ticksToHalt(1)", x.ticksToHalt(1), 1);
        Edge.is("ticksToHalt(2)", x.ticksToHalt(2), 1);
        Edge.is("ticksToHalt(199)", x.ticksToHalt(199), 1);
        Edge.is("ticksToHalt(200)", x.ticksToHalt(200), 1);
        Edge.says(12, "INVALID_ARGUMENT if limit is out of range");
        for (int limit : WRONG_LIMITS) {
            Edge.changesNothingAnywhere("ticksToHalt(" + limit + ")", y -> y.ticksToHalt(limit), -1);
        }
    }

    private static void promise12Halts() {
        Edge.says(12, "Returns the number of ticks after which the machine is halted (0 if it is halted now)");
        Edge.is("ticksToHalt(200), 199 before", behind(30).ticksToHalt(200), 199);
        Edge.is("ticksToHalt(200), 200 before", behind(29).ticksToHalt(200), 200);
        Edge.is("ticksToHalt(1), one before", Due.ticked("12@", 2).ticksToHalt(1), 1);
        Edge.is("ticksToHalt(1) of a halted machine", Due.ticked("12@", 3).ticksToHalt(1), 0);
        Edge.is("ticksToHalt(200) of a halted machine", Due.ticked("12@", 3).ticksToHalt(200), 0);
        Edge.is("ticksToHalt(200) of a stopped and a faulted pointer", Makings.halted().ticksToHalt(200), 0);
        Edge.is("ticksToHalt(200) until a fault", Due.machine("111111111111").ticksToHalt(200), 17);
        Edge.is("ticksToHalt(200) until the second pointer stops", Due.machine("t@        @").ticksToHalt(200), 3);
        Edge.is("ticksToHalt(200) by the first value of the queue", choosing(0, 1).ticksToHalt(200), 3);
        Edge.says(12, "NONE if it is not halted after that many ticks.");
        Edge.is("ticksToHalt(200) by the first value of the queue", choosing(1, 0).ticksToHalt(200), -9);
        Edge.is("ticksToHalt(200), 201 before", behind(28).ticksToHalt(200), -9);
        Edge.is("ticksToHalt(199), 200 before", behind(29).ticksToHalt(199), -9);
        Edge.is("ticksToHalt(1), two before", Due.ticked("12@", 1).ticksToHalt(1), -9);
        Edge.is("ticksToHalt(2) while one pointer still runs", Due.machine("t@        @").ticksToHalt(2), -9);
        Edge.is("ticksToHalt(200) of spaces", new GridMachine().ticksToHalt(200), -9);
    }

    /** The pointer goes on to the "@" if the first value is 0; otherwise back, and round column 11 without an end. */
    private static GridMachine choosing(int first, int second) {
        GridMachine x = Due.machine("~_@        v");
        x.feed(first);
        x.feed(second);
        return x;
    }

    private static void promise12ChangesNothing() {
        Edge.says(12, "Predicts when the machine halts.");
        Edge.changesNothing("ticksToHalt(200)", GridMachine::new, x -> x.ticksToHalt(200), -9);
        Edge.changesNothing("ticksToHalt(200) of a halted machine", Makings::halted, x -> x.ticksToHalt(200), 0);
        Edge.changesNothing("ticksToHalt(1) of a full machine", Makings::full, x -> x.ticksToHalt(1), -9);
        Edge.changesNothing("ticksToHalt(200) before a halt", () -> behind(29), x -> x.ticksToHalt(200), 200);
    }

    private static void promise13Limits() {
        Edge.says(13, "`limit`: greatest number of ticks to try, 1 to 200");
        GridMachine x = Due.ticked("><", 1);
        Edge.is("cycleStart(1)", x.cycleStart(1), -9);
        Edge.is("cycleStart(2)", x.cycleStart(2), 0);
        Edge.is("cycleStart(199)", x.cycleStart(199), 0);
        Edge.is("cycleStart(200)", x.cycleStart(200), 0);
        Edge.says(13, "INVALID_ARGUMENT if limit is out of range");
        for (int limit : WRONG_LIMITS) {
            Edge.changesNothingAnywhere("cycleStart(" + limit + ")", y -> y.cycleStart(limit), -1);
        }
    }

    private static void promise13First() {
        Edge.says(13, "Finds the first configuration that recurs.");
        // Behind the first tick the pointer goes to and fro; at first it goes right in column 0, later left.
        Edge.is("cycleStart(3) of \"><\"", Due.machine("><").cycleStart(3), 1);
        Edge.is("cycleStart(2) of \"><\"", Due.machine("><").cycleStart(2), -9);
        Edge.says(13, "Returns the smallest i for which there is a j, greater than i and at most limit, such that "
                + "configurations i and j are equal");
        Edge.is("cycleStart(12) of spaces", new GridMachine().cycleStart(12), 0);
        Edge.is("cycleStart(11) of spaces", new GridMachine().cycleStart(11), -9);
        // The pointer goes down from column 5 with tick 6 and round column 5 from then on.
        GridMachine late = Due.machine("     v");
        Edge.is("cycleStart(12), six ticks and a round of six", late.cycleStart(12), 6);
        Edge.is("cycleStart(11)", late.cycleStart(11), -9);
        Edge.is("cycleStart(200)", late.cycleStart(200), 6);
        late.tick(5);
        Edge.is("cycleStart(7), a tick before the round", late.cycleStart(7), 1);
        Edge.is("cycleStart(6), a tick before the round", late.cycleStart(6), -9);
        late.tick(1);
        Edge.is("cycleStart(6) in the round", late.cycleStart(6), 0);
        Edge.is("cycleStart(5) in the round", late.cycleStart(5), -9);
    }

    private static void promise13Longest() {
        Edge.says(13, "Configuration k is that after k further ticks.");
        GridMachine x = Due.machine(PERIOD_200);
        // At first the pointer goes right in (0, 0), a round later down: only configuration 1 recurs, with 201.
        Edge.is("cycleStart(200), a tick before a round of 200", x.cycleStart(200), -9);
        x.tick(1);
        Edge.is("cycleStart(200) in a round of 200", x.cycleStart(200), 0);
        Edge.is("cycleStart(199) in a round of 200", x.cycleStart(199), -9);
        // With configuration 228 the pointer comes down to the "r"; then it goes up to the "v" above it, and down.
        GridMachine entry = Due.machine(EdgesOfRuns.HALTS_BEHIND_229.replace("@", "r"));
        entry.tick(29);
        Edge.is("cycleStart(200), 199 ticks before a ring of two", entry.cycleStart(200), -9);
        entry.tick(1);
        Edge.is("cycleStart(200), 198 ticks before a ring of two", entry.cycleStart(200), 198);
        Edge.is("cycleStart(199), 198 ticks before a ring of two", entry.cycleStart(199), -9);
    }

    private static void promise13Configurations() {
        Edge.says(13, "A configuration consists of the grid, the execution order, all pointers with everything that "
                + "belongs to them, and the input queue; it does not include the output and the number of ticks.");
        Edge.is("the output is not included", Due.machine("5.").cycleStart(12), 0);
        GridMachine full = Due.machine("1.2.3.4.5.6.");
        full.tick(60);
        Edge.is("nor is a full output", full.cycleStart(12), 0);
        Edge.is("a value is included", Due.machine("1+").cycleStart(200), -9);
        Edge.is("a value that comes back", Due.machine("1+$").cycleStart(12), 0);
        Edge.is("a number of values is included", Due.machine("1").cycleStart(191), -9);
        Edge.is("a sleep count is included", Due.machine("9w").cycleStart(20), -9);
        Edge.is("a sleep count that comes back", Due.machine("9w").cycleStart(21), 0);
        Edge.is("a direction is included", Due.machine("r").cycleStart(12), -9);
        Edge.is("a direction that comes back", Due.machine("r").cycleStart(24), 0);
        // In the first round the "p" stores a "$" in (0, 1); from the second on the grid stays the same.
        Edge.is("a cell is included", Due.machine("66*01p").cycleStart(12), -9);
        Edge.is("a cell that stays", Due.machine("66*01p").cycleStart(18), 6);
        // Here it is the first cell that becomes "$"; from the second round on the "p" has a 0 and stores nothing.
        Edge.is("the first cell is included", Due.machine("66*00p").cycleStart(12), -9);
        Edge.is("the first cell", Due.machine("66*00p").cycleStart(18), 6);
        Edge.is("the last cell is included", Due.machine("66*29+5p").cycleStart(12), -9);
        Edge.is("the last cell", Due.machine("66*29+5p").cycleStart(20), 8);
        // Configurations 6 and 18 hold the values 5 and 5, once a stack each, once both in stack 0.
        Edge.is("the sizes of the stacks are included", Due.machine("551{v\n1}0{>").cycleStart(26), -9);
        Edge.is("the sizes of the stacks that stay", Due.machine("551{v\n1}0{>").cycleStart(27), 15);
        Edge.is("the number of stacks is included", Due.machine("{").cycleStart(13), -9);
        // Behind tick 13 there are three stacks, and "{" does nothing from then on.
        Edge.is("the number of stacks that stays", Due.machine("{").cycleStart(25), 13);
        // Pointer 1 is new behind tick 1, and both go round row 0 in twelve ticks.
        Edge.is("the pointers are included", Due.machine("t").cycleStart(12), -9);
        // Behind tick 13 each has split once more, so that there are four; they stay so.
        Edge.is("four pointers", Due.machine("t").cycleStart(25), 13);
        Edge.is("four pointers, a tick too few", Due.machine("t").cycleStart(24), -9);
        // Pointer 1 stops in tick 8; pointer 0 is in a ring of four since tick 1.
        Edge.is("a status is included", Due.machine("t>v  @\n ^<").cycleStart(11), -9);
        Edge.is("a status that stays", Due.machine("t>v  @\n ^<").cycleStart(12), 8);
    }

    private static void promise13InputQueue() {
        Edge.says(13, "all pointers with everything that belongs to them, and the input queue");
        GridMachine x = Due.machine("~$");
        x.feed(0);
        // Tick 2 drops the value that tick 1 took; from tick 13 on the "~" reverses, a round of 24 ticks to and fro.
        Edge.is("a queue that runs empty: cycleStart(12)", x.cycleStart(12), -9);
        Edge.is("a queue that runs empty: cycleStart(25)", x.cycleStart(25), -9);
        Edge.is("a queue that runs empty: cycleStart(26)", x.cycleStart(26), 2);
        // With two values, configurations 2 and 14 differ in the queue alone.
        GridMachine two = Due.machine("~$");
        two.feed(0);
        two.feed(0);
        Edge.is("a queue that grows shorter: cycleStart(14)", two.cycleStart(14), -9);
        Edge.is("a queue that grows shorter: cycleStart(37)", two.cycleStart(37), -9);
        Edge.is("a queue that grows shorter: cycleStart(38)", two.cycleStart(38), 14);
        GridMachine kept = new GridMachine();
        for (int i = 0; i < 16; i++) {
            kept.feed(i);
        }
        Edge.is("a full queue that stays", kept.cycleStart(12), 0);
    }

    private static void promise13Halts() {
        Edge.says(13, "NONE if there is no such i, or if the machine is halted after limit ticks or fewer.");
        GridMachine x = Due.machine("123@");
        Edge.is("cycleStart(3), four before the halt", x.cycleStart(3), -9);
        Edge.is("cycleStart(4), four before the halt", x.cycleStart(4), -9);
        Edge.is("cycleStart(5), four before the halt", x.cycleStart(5), -9);
        Edge.is("cycleStart(200), four before the halt", x.cycleStart(200), -9);
        x.tick(4);
        Edge.is("cycleStart(1) of a halted machine", x.cycleStart(1), -9);
        Edge.is("cycleStart(200) of a halted machine", x.cycleStart(200), -9);
        Edge.is("cycleStart(200), 200 before the halt", behind(29).cycleStart(200), -9);
        Edge.is("cycleStart(200), 201 before the halt", behind(28).cycleStart(200), -9);
        Edge.is("cycleStart(200) with one pointer stopped", Due.ticked("t>v  @\n ^<", 8).cycleStart(200), 0);
        Edge.is("cycleStart(200) of a fault", Due.machine("111111111111").cycleStart(200), -9);
    }

    private static void promise13ChangesNothing() {
        Edge.says(13, "Finds the first configuration that recurs.");
        Edge.changesNothing("cycleStart(200)", GridMachine::new, x -> x.cycleStart(200), 0);
        Edge.changesNothing("cycleStart(1)", GridMachine::new, x -> x.cycleStart(1), -9);
        Edge.changesNothing("cycleStart(200) of a halted machine", Makings::halted, x -> x.cycleStart(200), -9);
        Edge.changesNothing("cycleStart(1) of a full machine", Makings::full, x -> x.cycleStart(1), -9);
    }

    private static void promise14Limits() {
        Edge.says(14, "`limit`: greatest number of ticks to try, 1 to 200");
        GridMachine x = Due.ticked("><", 1);
        Edge.is("cycleLength(1)", x.cycleLength(1), -9);
        Edge.is("cycleLength(2)", x.cycleLength(2), 2);
        Edge.is("cycleLength(200)", x.cycleLength(200), 2);
        Edge.says(14, "INVALID_ARGUMENT and NONE as in cycleStart().");
        for (int limit : WRONG_LIMITS) {
            Edge.changesNothingAnywhere("cycleLength(" + limit + ")", y -> y.cycleLength(limit), -1);
        }
    }

    private static void promise14Period() {
        Edge.says(14, "Returns the period of the cycle that cycleStart() finds.");
        Edge.is("cycleLength(12) of spaces", new GridMachine().cycleLength(12), 12);
        Edge.is("cycleLength(12), six ticks and a round of six", Due.machine("     v").cycleLength(12), 6);
        Edge.says(14, "Returns the smallest j - i for the i that cycleStart(limit) returns");
        // Within 200 ticks the round comes up to a hundred times.
        Edge.is("cycleLength(200) of two", Due.machine("><").cycleLength(200), 2);
        Edge.is("cycleLength(200) of spaces", new GridMachine().cycleLength(200), 12);
        Edge.is("cycleLength(200) of a column", Due.machine("v").cycleLength(200), 6);
        GridMachine x = Due.ticked(PERIOD_200, 1);
        Edge.is("cycleLength(200) of 200", x.cycleLength(200), 200);
        // Pointer 0 goes round in four ticks, pointer 1 round column 11 in six, both from configuration 2 on.
        GridMachine two = Due.machine("t>v        v\n ^<");
        Edge.is("cycleLength(200) of two rings", two.cycleLength(200), 12);
        Edge.is("cycleLength(14) of two rings", two.cycleLength(14), 12);
        Edge.is("cycleLength(13) of two rings", two.cycleLength(13), -9);
        Edge.is("cycleLength(200) of a split", Due.machine("t").cycleLength(200), 12);
    }

    private static void promise14None() {
        Edge.says(14, "INVALID_ARGUMENT and NONE as in cycleStart().");
        Edge.is("cycleLength(11) of spaces", new GridMachine().cycleLength(11), -9);
        Edge.is("cycleLength(11), six ticks and a round of six", Due.machine("     v").cycleLength(11), -9);
        GridMachine x = Due.machine(PERIOD_200);
        Edge.is("cycleLength(200), a tick before a round of 200", x.cycleLength(200), -9);
        x.tick(1);
        Edge.is("cycleLength(199) of 200", x.cycleLength(199), -9);
        GridMachine halting = Due.machine("123@");
        Edge.is("cycleLength(3), four before the halt", halting.cycleLength(3), -9);
        Edge.is("cycleLength(4), four before the halt", halting.cycleLength(4), -9);
        Edge.is("cycleLength(200), four before the halt", halting.cycleLength(200), -9);
        halting.tick(4);
        Edge.is("cycleLength(1) of a halted machine", halting.cycleLength(1), -9);
        Edge.is("cycleLength(200) of a halted machine", halting.cycleLength(200), -9);
        for (int limit : WRONG_LIMITS) {
            Edge.is("cycleLength(" + limit + ") of a halted machine", halting.cycleLength(limit), -1);
            Edge.is("cycleStart(" + limit + ") of a halted machine", halting.cycleStart(limit), -1);
            Edge.is("ticksToHalt(" + limit + ") of a halted machine", halting.ticksToHalt(limit), -1);
        }
        Edge.is("cycleLength(200), 200 before the halt", behind(29).cycleLength(200), -9);
    }

    private static void promise14ChangesNothing() {
        Edge.says(14, "Returns the period of the cycle that cycleStart() finds.");
        Edge.changesNothing("cycleLength(200)", GridMachine::new, x -> x.cycleLength(200), 12);
        Edge.changesNothing("cycleLength(1)", GridMachine::new, x -> x.cycleLength(1), -9);
        Edge.changesNothing("cycleLength(200) of a halted machine", Makings::halted, x -> x.cycleLength(200), -9);
        Edge.changesNothing("cycleLength(1) of a full machine", Makings::full, x -> x.cycleLength(1), -9);
    }
}
