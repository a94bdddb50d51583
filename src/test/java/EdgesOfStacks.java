import java.util.Arrays;

/** The boundary cases of the stacks and of the instructions that use them, which tick() shows: promise 8. */
final class EdgesOfStacks {
    private static final int MIN = Edge.MIN;
    private static final int MAX = Edge.MAX;
    private static final int[] NONE = {};
    /** What is popped as n, and how many of three values are moved then. */
    private static final int[][] MOVED = {{MIN, 0}, {-1, 0}, {0, 0}, {1, 1}, {2, 2}, {3, 3}, {4, 3}, {16, 3}, {MAX, 3}};

    private EdgesOfStacks() {
    }

    static void all() {
        promise8Digits();
        promise8WrapsAtThirtyTwoBits();
        promise8Quotients();
        promise8Remainders();
        promise8Comparisons();
        promise8CopiesAndSwaps();
        promise8EmptyStack();
        promise8EmptyCurrentStack();
        promise8Sixteen();
        promise8SixteenInAllStacks();
        promise8Fault();
        promise8HalfDoneCopies();
        promise8HalfDoneSwaps();
        promise8HalfDoneInput();
        promise8Opening();
        promise8OpeningOfAFourth();
        promise8Closing();
        promise8ClosingOfTheOnlyOne();
    }

    /** Performs an instruction on a single stack and looks at what is left. */
    private static void gives(String instruction, int[] before, int... after) {
        GridMachine x = Makings.holding(before);
        Makings.perform(x, instruction);
        String what = instruction + " of " + before.length + " values";
        Edge.stack(what, x, 0, 0, after);
        Edge.is(what + ": status(0)", x.status(0), 0);
        Edge.is(what + ": position(0)", x.position(0), (before.length + 1) % 12);
    }

    private static void of(int a, String instruction, int b, int due) {
        GridMachine x = Makings.holding(new int[] {7, a, b});
        Makings.perform(x, instruction);
        Edge.stack(a + " " + instruction + " " + b, x, 0, 0, 7, due);
    }

    private static void promise8Digits() {
        Edge.says(8, "0 to 9 push the digit's value");
        for (int digit = 0; digit <= 9; digit++) {
            gives("" + digit, NONE, digit);
        }
        // The characters before the 0 and behind the 9 are no digits.
        gives("/", NONE, 0);
        gives(":", new int[] {3}, 3, 3);
    }

    private static void promise8WrapsAtThirtyTwoBits() {
        Edge.says(8, "+ pop b, pop a, push a + b");
        of(3, "+", 4, 7);
        of(MAX, "+", 0, MAX);
        of(MAX, "+", 1, MIN);
        of(MAX, "+", MAX, -2);
        of(MIN, "+", -1, MAX);
        of(MIN, "+", MIN, 0);
        of(MIN, "+", MAX, -1);
        Edge.says(8, "- pop b, pop a, push a - b");
        of(3, "-", 4, -1);
        of(MIN, "-", 0, MIN);
        of(MIN, "-", 1, MAX);
        of(MAX, "-", -1, MIN);
        of(0, "-", MIN, MIN);
        of(MIN, "-", MIN, 0);
        of(MIN, "-", MAX, 1);
        Edge.says(8, "* pop b, pop a, push a * b");
        of(3, "*", -4, -12);
        of(46340, "*", 46340, 2147395600);
        of(46341, "*", 46341, -2147479015);
        of(65536, "*", 65536, 0);
        of(65536, "*", 32768, MIN);
        of(MIN, "*", -1, MIN);
        of(MAX, "*", MAX, 1);
        of(MAX, "*", 2, -2);
        Edge.says(8, "All arithmetic wraps around at 32 bits.");
        of(MIN, "/", -1, MIN);
        of(MIN, "%", -1, 0);
        of(MAX, "+", 1, MIN);
        of(MIN, "-", 1, MAX);
        of(MIN, "*", MIN, 0);
    }

    private static void promise8Quotients() {
        Edge.says(8, "/ pop b, pop a, push a / b, rounded toward zero; push 0 if b is 0");
        of(7, "/", 2, 3);
        of(-7, "/", 2, -3);
        of(7, "/", -2, -3);
        of(-7, "/", -2, 3);
        of(1, "/", 2, 0);
        of(-1, "/", 2, 0);
        of(MIN, "/", 1, MIN);
        of(MIN, "/", MIN, 1);
        of(MIN, "/", MAX, -1);
        of(MAX, "/", MIN, 0);
        of(MAX, "/", -1, -MAX);
        int[] dividends = {0, 1, -1, 7, MIN, MAX};
        for (int a : dividends) {
            of(a, "/", 0, 0);
        }
        of(0, "/", 5, 0);
        gives("/", new int[] {5}, 0);
    }

    private static void promise8Remainders() {
        Edge.says(8, "% pop b, pop a, push the remainder of a / b, which has the sign of a; push 0 if b is 0");
        of(7, "%", 2, 1);
        of(-7, "%", 2, -1);
        of(7, "%", -2, 1);
        of(-7, "%", -2, -1);
        of(6, "%", 3, 0);
        of(-6, "%", 3, 0);
        of(1, "%", 2, 1);
        of(-1, "%", 2, -1);
        of(MIN, "%", MAX, -1);
        of(MAX, "%", MIN, MAX);
        of(MIN, "%", MIN, 0);
        int[] dividends = {0, 1, -1, 7, MIN, MAX};
        for (int a : dividends) {
            of(a, "%", 0, 0);
        }
        of(0, "%", -5, 0);
    }

    private static void promise8Comparisons() {
        Edge.says(8, "! pop a, push 1 if a is 0, otherwise push 0");
        gives("!", new int[] {7, 0}, 7, 1);
        int[] others = {1, -1, 2, 256, MIN, MAX};
        for (int value : others) {
            gives("!", new int[] {7, value}, 7, 0);
        }
        Edge.says(8, "` pop b, pop a, push 1 if a is greater than b, otherwise push 0");
        of(4, "`", 3, 1);
        of(4, "`", 4, 0);
        of(4, "`", 5, 0);
        of(0, "`", -1, 1);
        of(-1, "`", 0, 0);
        of(MAX, "`", MIN, 1);
        of(MIN, "`", MAX, 0);
        of(MIN, "`", MIN, 0);
        of(MAX, "`", MAX, 0);
        of(MIN, "`", MIN + 1, 0);
        of(MIN + 1, "`", MIN, 1);
    }

    private static void promise8CopiesAndSwaps() {
        Edge.says(8, ": pop a, push a, push a (the popped 0 of an empty stack, too)");
        gives(":", NONE, 0, 0);
        gives(":", new int[] {MIN}, MIN, MIN);
        gives(":", new int[] {1, 2}, 1, 2, 2);
        Edge.says(8, "\\ pop b, pop a, push b, push a");
        gives("\\", NONE, 0, 0);
        gives("\\", new int[] {5}, 5, 0);
        gives("\\", new int[] {1, 2}, 2, 1);
        gives("\\", new int[] {1, 2, 3}, 1, 3, 2);
        Edge.says(8, "$ pop a");
        gives("$", NONE);
        gives("$", new int[] {5});
        gives("$", new int[] {5, 6}, 5);
        Edge.says(8, "To push appends a value to the current stack.");
        gives("3", new int[] {1, 2}, 1, 2, 3);
    }

    private static void promise8EmptyStack() {
        Edge.says(8, "To pop takes the last value of the current stack; popping an empty stack gives 0 and changes "
                + "nothing.");
        String[] pushing = {"+", "-", "*", "/", "%", "`"};
        for (String instruction : pushing) {
            gives(instruction, NONE, 0);
        }
        gives("!", NONE, 1);
        gives("+", new int[] {5}, 5);
        gives("-", new int[] {5}, -5);
        gives("*", new int[] {5}, 0);
        gives("`", new int[] {5}, 0);
        gives("`", new int[] {-5}, 1);
        gives("%", new int[] {5}, 0);
        gives("$", NONE);
        gives("_", NONE);
        gives("w", NONE);
        gives("p", NONE);
        gives("p", new int[] {5});
        gives("p", new int[] {5, 6});
        GridMachine output = Due.ticked(".", 1);
        Edge.output(". of an empty stack", output, 0);
        GridMachine opened = Due.ticked("{", 1);
        Edge.is("{ of an empty stack: stackCount(0)", opened.stackCount(0), 2);
        Edge.stack("{ of an empty stack", opened, 0, 0);
        Edge.stack("{ of an empty stack", opened, 0, 1);
    }

    /** The stack below the current one has values, but none of them is popped. */
    private static void promise8EmptyCurrentStack() {
        Edge.says(8, "The last stack of the list is the current stack.");
        String[] instructions = {"+", "-", "*", "/", "%", "`", "!", ":", "\\", "$", "_", "|", ".", "w", "g", "p"};
        for (String instruction : instructions) {
            GridMachine x = Makings.holding(new int[] {3, 4}, NONE);
            Makings.perform(x, instruction);
            Edge.stack(instruction + ", the stack below", x, 0, 0, 3, 4);
            Edge.is(instruction + ": stackCount(0)", x.stackCount(0), 2);
        }
        GridMachine pushed = Makings.holding(new int[] {3}, new int[] {4}, new int[] {5});
        Makings.perform(pushed, "6");
        Edge.stack("6, stack 0", pushed, 0, 0, 3);
        Edge.stack("6, stack 1", pushed, 0, 1, 4);
        Edge.stack("6, stack 2", pushed, 0, 2, 5, 6);
        GridMachine third = Makings.holding(new int[] {3}, new int[] {4}, NONE);
        Makings.perform(third, "-");
        Edge.stack("-, stack 1", third, 0, 1, 4);
        Edge.stack("-, stack 2", third, 0, 2, 0);
    }

    private static void faulted(String what, GridMachine x, int position) {
        Edge.is(what + ": status(0)", x.status(0), 2);
        Edge.is(what + ": position(0)", x.position(0), position);
        Edge.is(what + ": direction(0)", x.direction(0), 0);
        Edge.is(what + ": the machine is halted", x.tick(1), -2);
    }

    private static void promise8Sixteen() {
        Edge.says(8, "A pointer holds at most 16 values in all its stacks together.");
        GridMachine x = Makings.holding(Makings.upTo(15));
        Makings.perform(x, "9");
        Edge.is("a sixteenth value: status(0)", x.status(0), 0);
        Edge.is("a sixteenth value: stackSize(0, 0)", x.stackSize(0, 0), 16);
        Edge.is("a sixteenth value: position(0)", x.position(0), 4);
        Makings.perform(x, "8");
        faulted("a seventeenth value", x, 4);
        Edge.is("a seventeenth value: stackSize(0, 0)", x.stackSize(0, 0), 16);
        Edge.is("a seventeenth value: valueAt(0, 0, 15)", x.valueAt(0, 0, 15), 9);
        Edge.is("a seventeenth value: valueAt(0, 0, 16)", x.valueAt(0, 0, 16), 0);
        // These pop before they push, so that a full pointer performs them.
        String[] popping = {"+", "-", "*", "/", "%", "`", "!", "\\", "g"};
        int[] sizes = {15, 15, 15, 15, 15, 15, 16, 16, 15};
        for (int i = 0; i < popping.length; i++) {
            GridMachine y = Makings.holding(Makings.upTo(16));
            Makings.perform(y, popping[i]);
            Edge.is(popping[i] + " of sixteen values: status(0)", y.status(0), 0);
            Edge.is(popping[i] + " of sixteen values: stackSize(0, 0)", y.stackSize(0, 0), sizes[i]);
            Edge.is(popping[i] + " of sixteen values: position(0)", y.position(0), 5);
        }
    }

    private static void promise8SixteenInAllStacks() {
        Edge.says(8, "A pointer has an identifier, a position, a direction (0 right, 1 down, 2 left, 3 up), a list of "
                + "one to three stacks of 32-bit integers, a sleep count, and a status: running, stopped or faulted.");
        int[][][] makings = {{Makings.upTo(8), Makings.upTo(7)}, {Makings.upTo(15), NONE}, {NONE, Makings.upTo(15)},
            {Makings.upTo(5), Makings.upTo(5), Makings.upTo(5)}, {NONE, NONE, Makings.upTo(15)},
            {Makings.upTo(14), Makings.upTo(1), NONE}};
        for (int[][] stacks : makings) {
            GridMachine x = Makings.holding(stacks);
            int current = stacks.length - 1;
            int size = stacks[current].length;
            Makings.perform(x, "9");
            Edge.is("a sixteenth value in " + stacks.length + " stacks: status(0)", x.status(0), 0);
            Edge.is("a sixteenth value: stackSize(0, " + current + ")", x.stackSize(0, current), size + 1);
            int position = x.position(0);
            Makings.perform(x, "8");
            faulted("a seventeenth value in " + stacks.length + " stacks", x, position);
            for (int stack = 0; stack < current; stack++) {
                Edge.stack("a seventeenth value", x, 0, stack, stacks[stack]);
            }
            Edge.is("a seventeenth value: stackSize(0, " + current + ")", x.stackSize(0, current), size + 1);
            Edge.is("a seventeenth value: the last one", x.valueAt(0, current, size), 9);
        }
        // What "$" takes away makes room again, and so does what "}" discards.
        GridMachine room = Makings.holding(Makings.upTo(16));
        Makings.perform(room, "$5");
        Edge.is("$5 of sixteen values: status(0)", room.status(0), 0);
        GridMachine discarded = Makings.holding(Makings.upTo(10), Makings.upTo(5));
        Makings.perform(discarded, "0}123456");
        Edge.is("a discarded stack makes room: status(0)", discarded.status(0), 0);
        Edge.is("a discarded stack makes room: stackSize(0, 0)", discarded.stackSize(0, 0), 16);
        Makings.perform(discarded, "7");
        Edge.is("but no more than that: status(0)", discarded.status(0), 2);
    }

    private static void promise8Fault() {
        Edge.says(8, "If the pointer already holds 16 values, a push is not performed, the pointer becomes faulted, "
                + "the rest of the instruction is not performed, and the pointer does not move; what the instruction "
                + "did before that push stays done.");
        for (int digit = 0; digit <= 9; digit++) {
            GridMachine x = Makings.holding(Makings.upTo(16));
            Makings.perform(x, "" + digit);
            Edge.stack("the digit " + digit, x, 0, 0, Makings.upTo(16));
            faulted("the digit " + digit, x, 4);
        }
        GridMachine down = Makings.holding(Makings.upTo(16));
        Makings.perform(down, "v3");
        Edge.is("a fault on the way down: status(0)", down.status(0), 2);
        Edge.is("a fault on the way down: position(0)", down.position(0), 16);
        Edge.is("a fault on the way down: direction(0)", down.direction(0), 1);
    }

    private static void promise8HalfDoneCopies() {
        Edge.says(8, "the rest of the instruction is not performed, and the pointer does not move; what the "
                + "instruction did before that push stays done.");
        GridMachine last = Makings.holding(Makings.upTo(15));
        Makings.perform(last, ":");
        Edge.is(": of fifteen: status(0)", last.status(0), 0);
        Edge.is(": of fifteen: valueAt(0, 0, 15)", last.valueAt(0, 0, 15), 15);
        GridMachine full = Makings.holding(Makings.upTo(16));
        Makings.perform(full, ":");
        Edge.stack(": of sixteen", full, 0, 0, Makings.upTo(16));
        faulted(": of sixteen", full, 4);
        GridMachine room = Makings.holding(Makings.upTo(14), NONE);
        Makings.perform(room, ":");
        Edge.stack(": of none above fourteen", room, 0, 1, 0, 0);
        Edge.is(": of none above fourteen: status(0)", room.status(0), 0);
        GridMachine none = Makings.holding(Makings.upTo(15), NONE);
        int position = none.position(0);
        Makings.perform(none, ":");
        Edge.stack(": of none above fifteen", none, 0, 0, Makings.upTo(15));
        Edge.stack(": of none above fifteen", none, 0, 1, 0);
        faulted(": of none above fifteen", none, position);
    }

    private static void promise8HalfDoneSwaps() {
        Edge.says(8, "what the instruction did before that push stays done.");
        GridMachine full = Makings.holding(Makings.upTo(14), new int[] {8, 9});
        Makings.perform(full, "\\");
        Edge.stack("\\ of two above fourteen", full, 0, 1, 9, 8);
        Edge.is("\\ of two above fourteen: status(0)", full.status(0), 0);
        GridMachine room = Makings.holding(Makings.upTo(14), new int[] {8});
        Makings.perform(room, "\\");
        Edge.stack("\\ of one above fourteen", room, 0, 1, 8, 0);
        Edge.is("\\ of one above fourteen: status(0)", room.status(0), 0);
        GridMachine one = Makings.holding(Makings.upTo(15), new int[] {8});
        int position = one.position(0);
        Makings.perform(one, "\\");
        Edge.stack("\\ of one above fifteen", one, 0, 1, 8);
        faulted("\\ of one above fifteen", one, position);
        GridMachine none = Makings.holding(Makings.upTo(15), NONE);
        position = none.position(0);
        Makings.perform(none, "\\");
        Edge.stack("\\ of none above fifteen", none, 0, 1, 0);
        faulted("\\ of none above fifteen", none, position);
        String[] once = {"+", "-", "*", "/", "%", "`", "!", "g"};
        for (String instruction : once) {
            GridMachine x = Makings.holding(Makings.upTo(15), NONE);
            Makings.perform(x, instruction);
            Edge.is(instruction + " of none above fifteen: status(0)", x.status(0), 0);
            Edge.is(instruction + " of none above fifteen: stackSize(0, 1)", x.stackSize(0, 1), 1);
            GridMachine y = Makings.holding(Makings.upTo(15), new int[] {1});
            Makings.perform(y, instruction);
            Edge.is(instruction + " of one above fifteen: status(0)", y.status(0), 0);
            Edge.is(instruction + " of one above fifteen: stackSize(0, 1)", y.stackSize(0, 1), 1);
        }
    }

    private static void promise8HalfDoneInput() {
        Edge.says(8, "~ if the input queue is not empty, remove its first value and push it; otherwise reverse the "
                + "direction");
        GridMachine full = Makings.holding(Makings.upTo(16));
        full.feed(70);
        full.feed(80);
        Makings.perform(full, "~");
        Edge.stack("~ of sixteen values", full, 0, 0, Makings.upTo(16));
        Edge.is("~ of sixteen values: the value was removed", full.inputSize(), 1);
        faulted("~ of sixteen values", full, 4);
        Edge.same("~ of sixteen values: what is left", Edge.lookAtQueue(full), "queue 80");
        GridMachine last = Makings.holding(Makings.upTo(15));
        last.feed(70);
        Makings.perform(last, "~");
        Edge.is("~ of fifteen values: status(0)", last.status(0), 0);
        Edge.is("~ of fifteen values: valueAt(0, 0, 15)", last.valueAt(0, 0, 15), 70);
        Edge.is("~ of fifteen values: inputSize()", last.inputSize(), 0);
        GridMachine empty = Makings.holding(Makings.upTo(16));
        Makings.perform(empty, "~");
        Edge.is("~ without input, of sixteen values: status(0)", empty.status(0), 0);
        Edge.is("~ without input, of sixteen values: direction(0)", empty.direction(0), 2);
        Edge.is("~ without input, of sixteen values: position(0)", empty.position(0), 3);
        Edge.stack("~ without input, of sixteen values", empty, 0, 0, Makings.upTo(16));
        for (int direction = 0; direction < 4; direction++) {
            GridMachine x = Makings.going(0, 0, direction);
            Makings.perform(x, "~");
            Edge.is("~ without input, from direction " + direction, x.direction(0), direction ^ 2);
            Edge.is("~ without input: stackSize(0, 0)", x.stackSize(0, 0), 0);
        }
        GridMachine sixteen = new GridMachine();
        for (int i = 0; i < 16; i++) {
            sixteen.feed(50 + i);
        }
        Makings.perform(sixteen, "~");
        Edge.stack("~ of a full queue", sixteen, 0, 0, 50);
        Edge.is("~ of a full queue: inputSize()", sixteen.inputSize(), 15);
    }

    private static void promise8Opening() {
        Edge.says(8, "{ pop n; if there are fewer than three stacks, append an empty stack to the list of stacks, and "
                + "move the last n values of the previously current stack to it, in their order");
        GridMachine none = Makings.holding(new int[] {0});
        Makings.perform(none, "{");
        Edge.is("{ of one value, n: stackCount(0)", none.stackCount(0), 2);
        Edge.stack("{ of one value, n", none, 0, 0);
        Edge.stack("{ of one value, n", none, 0, 1);
        GridMachine third = Makings.holding(new int[] {1}, new int[] {2, 3, 4, 2});
        Makings.perform(third, "{");
        Edge.is("{ as the third: stackCount(0)", third.stackCount(0), 3);
        Edge.stack("{ as the third", third, 0, 0, 1);
        Edge.stack("{ as the third", third, 0, 1, 2);
        Edge.stack("{ as the third", third, 0, 2, 3, 4);
        Edge.says(8, "For \"{\" and \"}\" the number n is taken as 0 if it is negative, and as the size of the current "
                + "stack (after n was popped) if it is greater than that size.");
        for (int[] n : MOVED) {
            GridMachine x = Makings.holding(new int[] {5, 6, 7, n[0]});
            Makings.perform(x, "{");
            Edge.is("{ of " + n[0] + ": stackCount(0)", x.stackCount(0), 2);
            Edge.stack("{ of " + n[0], x, 0, 0, Arrays.copyOf(new int[] {5, 6, 7}, 3 - n[1]));
            Edge.stack("{ of " + n[0], x, 0, 1, Arrays.copyOfRange(new int[] {5, 6, 7}, 3 - n[1], 3));
            Makings.perform(x, "9");
            Edge.is("{ of " + n[0] + ": the next value", x.valueAt(0, 1, n[1]), 9);
            Makings.perform(x, "$.");
            Edge.output("{ of " + n[0] + ": the last value", x, n[1] == 0 ? 0 : 7);
        }
        GridMachine full = Makings.holding(Makings.upTo(16));
        Makings.perform(full, "{");
        Edge.stack("{ of sixteen values", full, 0, 0);
        Edge.stack("{ of sixteen values", full, 0, 1, Makings.upTo(15));
    }

    private static void promise8OpeningOfAFourth() {
        Edge.says(8, "if there are fewer than three stacks, append an empty stack to the list of stacks");
        GridMachine x = Makings.holding(new int[] {1}, new int[] {2}, new int[] {3, 4, 1});
        int position = x.position(0);
        Makings.perform(x, "{");
        Edge.is("{ of three stacks: stackCount(0)", x.stackCount(0), 3);
        Edge.stack("{ of three stacks", x, 0, 0, 1);
        Edge.stack("{ of three stacks", x, 0, 1, 2);
        Edge.stack("{ of three stacks pops n", x, 0, 2, 3, 4);
        Edge.is("{ of three stacks: position(0)", x.position(0), position + 1);
        Edge.is("{ of three stacks: direction(0)", x.direction(0), 0);
        GridMachine empty = Makings.holding(new int[] {1}, new int[] {2}, NONE);
        Makings.perform(empty, "{");
        Edge.is("{ of an empty third stack: stackCount(0)", empty.stackCount(0), 3);
        Edge.stack("{ of an empty third stack", empty, 0, 1, 2);
        Edge.stack("{ of an empty third stack", empty, 0, 2);
    }

    private static void promise8Closing() {
        Edge.says(8, "} if there is one stack only, reverse the direction; otherwise pop n, move the last n values of "
                + "the current stack to the end of the stack before it, in their order, and discard the current stack "
                + "with what is left in it");
        for (int[] n : MOVED) {
            GridMachine x = Makings.holding(new int[] {1, 2}, new int[] {5, 6, 7, n[0]});
            Makings.perform(x, "}");
            int[] after = {1, 2, 5, 6, 7};
            System.arraycopy(after, 5 - n[1], after, 2, n[1]);
            Edge.is("} of " + n[0] + ": stackCount(0)", x.stackCount(0), 1);
            Edge.stack("} of " + n[0], x, 0, 0, Arrays.copyOf(after, 2 + n[1]));
            Edge.is("} of " + n[0] + ": direction(0)", x.direction(0), 0);
            Makings.perform(x, "98");
            Edge.is("} of " + n[0] + ": the next value", x.valueAt(0, 0, 2 + n[1]), 9);
            Edge.is("} of " + n[0] + ": the value behind it", x.valueAt(0, 0, 3 + n[1]), 8);
            Makings.perform(x, "$$.");
            Edge.output("} of " + n[0] + ": the last value", x, n[1] == 0 ? 2 : 7);
        }
        GridMachine third = Makings.holding(new int[] {1}, new int[] {2}, new int[] {3, 4, 1});
        Makings.perform(third, "}");
        Edge.is("} of three stacks: stackCount(0)", third.stackCount(0), 2);
        Edge.stack("} of three stacks", third, 0, 0, 1);
        Edge.stack("} of three stacks", third, 0, 1, 2, 4);
        GridMachine empty = Makings.holding(new int[] {1}, NONE);
        Makings.perform(empty, "}");
        Edge.is("} of an empty stack: stackCount(0)", empty.stackCount(0), 1);
        Edge.stack("} of an empty stack", empty, 0, 0, 1);
        GridMachine full = Makings.holding(NONE, Makings.upTo(16));
        Makings.perform(full, "}");
        Edge.stack("} of sixteen values", full, 0, 0, Makings.upTo(15));
        Makings.perform(full, "9");
        Edge.is("} of sixteen values, and one more: status(0)", full.status(0), 0);
        Makings.perform(full, "8");
        Edge.is("} of sixteen values, and two more: status(0)", full.status(0), 2);
        GridMachine halves = Makings.holding(Makings.upTo(10), new int[] {1, 2, 3, 4, 5, 3});
        Makings.perform(halves, "}123");
        Edge.is("} of ten and five, three are moved: stackSize(0, 0)", halves.stackSize(0, 0), 16);
        Edge.is("} of ten and five, three are moved: status(0)", halves.status(0), 0);
        Makings.perform(halves, "4");
        Edge.is("} of ten and five, three are moved: a fault", halves.status(0), 2);
    }

    private static void promise8ClosingOfTheOnlyOne() {
        Edge.says(8, "if there is one stack only, reverse the direction; otherwise pop n");
        for (int direction = 0; direction < 4; direction++) {
            GridMachine x = Makings.going(5, 3, direction);
            Makings.perform(x, "}");
            Edge.is("} of the only stack, from direction " + direction, x.direction(0), direction ^ 2);
            Edge.is("} of the only stack: stackCount(0)", x.stackCount(0), 1);
        }
        GridMachine kept = Makings.holding(new int[] {5, 1});
        Makings.perform(kept, "}");
        Edge.stack("} of the only stack pops nothing", kept, 0, 0, 5, 1);
        GridMachine again = Makings.holding(new int[] {5}, new int[] {6});
        Makings.perform(again, "}}");
        Edge.is("} again: direction(0)", again.direction(0), 2);
        Edge.stack("} again", again, 0, 0, 5);
    }
}
