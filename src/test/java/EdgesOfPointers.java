/** The boundary cases of pointers, turns, sleeping, splitting and output, which tick() shows: promise 8. */
final class EdgesOfPointers {
    private static final int MIN = Edge.MIN;
    private static final int MAX = Edge.MAX;
    private static final int RIGHT = 0;
    private static final int DOWN = 1;
    private static final int LEFT = 2;
    private static final int UP = 3;

    private EdgesOfPointers() {
    }

    static void all() {
        promise8ExecutionOrder();
        promise8Turns();
        promise8NotRunning();
        promise8SleepCounts();
        promise8SleepingTurns();
        promise8Stop();
        promise8FourPointers();
        promise8FourStoppedPointers();
        promise8SplitAtTheSides();
        promise8SplitCopies();
        promise8SplitOrder();
        promise8Output();
    }

    private static void order(String what, GridMachine x, int... identifiers) {
        Edge.is(what + ": pointerCount()", x.pointerCount(), identifiers.length);
        for (int place = 0; place < identifiers.length; place++) {
            Edge.is(what + ": pointerAt(" + place + ")", x.pointerAt(place), identifiers[place]);
        }
    }

    private static void promise8ExecutionOrder() {
        Edge.says(8, "The pointers form a list, the execution order.");
        order("a new object", new GridMachine(), 0);
        order("tttt", Due.ticked("tttt", 4), 0, 3, 2, 1);
        Edge.says(8, "Identifiers are given in the order of creation.");
        GridMachine x = Due.machine("tt");
        x.tick(1);
        order("one split", x, 0, 1);
        x.tick(1);
        order("two splits", x, 0, 2, 1);
        // In tick 3 pointer 2 splits in column 0; pointer 3 comes directly after it.
        x.tick(1);
        order("three splits", x, 0, 2, 3, 1);
    }

    private static void promise8Turns() {
        Edge.says(8, "In one tick each pointer that existed when the tick began has one turn, in the execution order.");
        // Pointer 0 holds a 3 last, pointer 2 a 2, pointer 1 a 1; then all of them output.
        GridMachine x = Due.ticked("1t2t3", 5);
        for (int column = 0; column < 12; column++) {
            x.poke(column, 0, '.');
        }
        order("1t2t3", x, 0, 2, 1);
        x.tick(1);
        Edge.output("one tick of three pointers", x, 3, 2, 1);
        Edge.says(8, "It has its first turn in the next tick.");
        GridMachine split = Due.ticked("5t", 2);
        Edge.stack("the tick of the split", split, 1, 0, 5);
        Edge.is("the tick of the split: position(1)", split.position(1), 0);
        split.tick(1);
        Edge.stack("the next tick", split, 1, 0, 5, 5);
        Edge.is("the next tick: position(1)", split.position(1), 11);
    }

    private static void promise8NotRunning() {
        Edge.says(8, "A pointer that is not running does nothing in its turn.");
        GridMachine stopped = Due.ticked("t@", 2);
        stopped.poke(1, 0, '5');
        stopped.tick(3);
        Edge.is("stopped: position(0)", stopped.position(0), 1);
        Edge.is("stopped: stackSize(0, 0)", stopped.stackSize(0, 0), 0);
        Edge.is("stopped: status(0)", stopped.status(0), 1);
        Edge.is("the other runs: position(1)", stopped.position(1), 7);
        GridMachine faulted = Makings.holding(Makings.upTo(16));
        faulted.poke(5, 0, '3');
        Makings.perform(faulted, "t");
        faulted.tick(1);
        Edge.is("faulted: status(0)", faulted.status(0), 2);
        faulted.poke(5, 0, '$');
        Edge.is("the other runs: tick(1)", faulted.tick(1), 1);
        Edge.is("faulted: stackSize(0, 0)", faulted.stackSize(0, 0), 16);
        Edge.is("faulted: position(0)", faulted.position(0), 5);
    }

    private static void promise8SleepCounts() {
        Edge.says(8, "w pop a; the sleep count becomes a, but at least 0 and at most 9");
        int[][] counts = {{MIN, 0}, {-10, 0}, {-1, 0}, {0, 0}, {1, 1}, {8, 8}, {9, 9}, {10, 9}, {11, 9}, {256, 9},
            {MAX, 9}};
        for (int[] count : counts) {
            GridMachine x = Makings.holding(new int[] {7, count[0]});
            Makings.perform(x, "w");
            Edge.is("w of " + count[0] + ": sleep(0)", x.sleep(0), count[1]);
            Edge.is("w of " + count[0] + ": position(0)", x.position(0), 3);
            Edge.stack("w of " + count[0], x, 0, 0, 7);
        }
        Edge.is("w of an empty stack: sleep(0)", Due.ticked("w", 1).sleep(0), 0);
    }

    private static void promise8SleepingTurns() {
        Edge.says(8, "If the sleep count is above 0, the turn decreases it by 1 and does nothing else.");
        for (int turns = 0; turns <= 9; turns++) {
            GridMachine x = Due.ticked(turns + "w5", 2);
            for (int left = turns; left > 0; left--) {
                Edge.is("sleep(0) before the turn", x.sleep(0), left);
                x.tick(1);
                Edge.is("sleep(0) behind the turn", x.sleep(0), left - 1);
                Edge.is("position(0) behind the turn", x.position(0), 2);
                Edge.is("stackSize(0, 0) behind the turn", x.stackSize(0, 0), 0);
            }
            x.tick(1);
            Edge.stack("the turn behind the sleep of " + turns, x, 0, 0, 5);
            Edge.is("position(0) behind it", x.position(0), 3);
            Edge.is("sleep(0) behind it", x.sleep(0), 0);
        }
    }

    private static void promise8Stop() {
        Edge.says(8, "@ the pointer becomes stopped");
        for (int direction = 0; direction < 4; direction++) {
            GridMachine x = Makings.going(11, 5, direction);
            Makings.perform(x, "@");
            Edge.is("@: status(0)", x.status(0), 1);
            Edge.is("@: position(0)", x.position(0), 71);
            Edge.is("@: direction(0)", x.direction(0), direction);
            Edge.is("@: tick(1)", x.tick(1), -2);
        }
    }

    private static void promise8FourPointers() {
        Edge.says(8, "A split does nothing if there are already 4 pointers.");
        GridMachine x = Due.machine("tttt@");
        x.tick(3);
        Edge.is("three splits: pointerCount()", x.pointerCount(), 4);
        String order = x.pointerAt(0) + " " + x.pointerAt(1) + " " + x.pointerAt(2) + " " + x.pointerAt(3);
        x.tick(1);
        Edge.is("a fourth split: pointerCount()", x.pointerCount(), 4);
        Edge.is("a fourth split: position(0)", x.position(0), 4);
        Edge.is("a fourth split: direction(0)", x.direction(0), 0);
        Edge.is("a fourth split: status(0)", x.status(0), 0);
        Edge.same("a fourth split: the order",
                x.pointerAt(0) + " " + x.pointerAt(1) + " " + x.pointerAt(2) + " " + x.pointerAt(3), order);
        // In tick 3 pointer 0 splits first; then there are four, and pointer 2 in column 0 splits no more.
        GridMachine same = Due.ticked("ttt", 3);
        order("two splits in one tick", same, 0, 3, 2, 1);
        Edge.is("two splits in one tick: position(2)", same.position(2), 11);
    }

    private static void promise8FourStoppedPointers() {
        Edge.says(8, "There are at most 4 pointers, running or not; they stay in the execution order when they stop.");
        // Pointers 1, 2 and 3 stop in column 5; pointer 0 goes down, and splits in vain in row 3.
        GridMachine x = Due.machine("tttv @\n\n\n   t");
        x.tick(12);
        int[] statuses = {0, 1, 1, 1};
        for (int pointer = 0; pointer < 4; pointer++) {
            Edge.is("status(" + pointer + ")", x.status(pointer), statuses[pointer]);
        }
        order("three stopped pointers", x, 0, 3, 2, 1);
        Edge.is("position(1)", x.position(1), 5);
        GridMachine all = Due.machine("ttt@");
        all.tick(200);
        order("four stopped pointers", all, 0, 3, 2, 1);
        Edge.is("four stopped pointers: tick(1)", all.tick(1), -2);
    }

    private static void splits(int column, int row, int direction, int toColumn, int toRow) {
        GridMachine x = Makings.going(column, row, direction);
        Makings.perform(x, "t");
        String what = "t in column " + column + ", row " + row + ", direction " + direction;
        Edge.is(what + ": position(1)", x.position(1), 12 * toRow + toColumn);
        Edge.is(what + ": direction(1)", x.direction(1), direction ^ 2);
        Edge.is(what + ": direction(0)", x.direction(0), direction);
    }

    private static void promise8SplitAtTheSides() {
        Edge.says(8, "The new pointer is moved one cell in its direction from the position of the executing pointer, "
                + "and it is inserted into the execution order directly after the executing pointer.");
        for (int row = 0; row < 6; row++) {
            splits(0, row, RIGHT, 11, row);
            splits(1, row, RIGHT, 0, row);
            splits(11, row, LEFT, 0, row);
            splits(10, row, LEFT, 11, row);
        }
        for (int column = 0; column < 12; column++) {
            splits(column, 0, DOWN, column, 5);
            splits(column, 1, DOWN, column, 0);
            splits(column, 5, UP, column, 0);
            splits(column, 4, UP, column, 5);
        }
    }

    private static void promise8SplitCopies() {
        Edge.says(8, "Otherwise it creates a pointer with a copy of all stacks of the executing pointer, the opposite "
                + "direction, sleep count 0 and status running.");
        int[] none = {};
        int[][][] makings = {{none}, {Makings.upTo(16)}, {none, none, none}, {Makings.upTo(5), Makings.upTo(6),
            Makings.upTo(5)}, {Makings.upTo(3), none}};
        for (int[][] stacks : makings) {
            GridMachine x = Makings.holding(stacks);
            Makings.perform(x, "t");
            for (int pointer = 0; pointer < 2; pointer++) {
                Edge.is("t: stackCount(" + pointer + ")", x.stackCount(pointer), stacks.length);
                for (int stack = 0; stack < stacks.length; stack++) {
                    Edge.stack("t", x, pointer, stack, stacks[stack]);
                }
                Edge.is("t: sleep(" + pointer + ")", x.sleep(pointer), 0);
                Edge.is("t: status(" + pointer + ")", x.status(pointer), 0);
            }
        }
        GridMachine own = Due.ticked("6t$", 3);
        Edge.stack("the copy stays when the first pops", own, 0, 0);
        Edge.stack("the copy stays when the first pops", own, 1, 0, 6, 6);
        Edge.says(8, "t split, see below");
        Edge.is("t: pointerCount()", Due.ticked("t", 1).pointerCount(), 2);
        Edge.is("t: position(0)", Due.ticked("t", 1).position(0), 1);
    }

    private static void promise8SplitOrder() {
        Edge.says(8, "it is inserted into the execution order directly after the executing pointer.");
        // Pointer 1, the last one, splits in column 10 in tick 3: its pointer comes behind it.
        GridMachine x = Due.ticked("t         t", 3);
        order("the last one splits", x, 0, 1, 2);
        Edge.is("the last one splits: position(2)", x.position(2), 11);
        Edge.is("the last one splits: direction(2)", x.direction(2), 0);
        // In tick 3 both pointers split: each new one comes directly behind its own.
        GridMachine both = Due.ticked("t t       t", 3);
        order("both split in one tick", both, 0, 2, 1, 3);
        Edge.is("both split in one tick: position(2)", both.position(2), 1);
        Edge.is("both split in one tick: position(3)", both.position(3), 11);
    }

    private static void promise8Output() {
        Edge.says(8, ". pop a, append a to the output");
        int[] values = {MIN, -1, 0, 1, MAX};
        for (int value : values) {
            GridMachine x = Makings.holding(new int[] {7, value});
            Makings.perform(x, ".");
            Edge.output(". of " + value, x, value);
            Edge.stack(". of " + value, x, 0, 0, 7);
        }
        Edge.output(". of an empty stack", Due.ticked(".", 1), 0);
        GridMachine twenty = Due.ticked("1.2.3.4.5.6.", 40);
        Edge.output("twenty values", twenty, 1, 2, 3, 4, 5, 6, 1, 2, 3, 4, 5, 6, 1, 2, 3, 4, 5, 6, 1, 2);
        Edge.is("twenty values: outputTotal()", twenty.outputTotal(), 20);
        twenty.tick(2);
        Edge.output("twenty-one values", twenty, 2, 3, 4, 5, 6, 1, 2, 3, 4, 5, 6, 1, 2, 3, 4, 5, 6, 1, 2, 3);
        Edge.is("twenty-one values: outputTotal()", twenty.outputTotal(), 21);
    }
}
