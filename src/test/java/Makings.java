/** Machines in the states that boundary tests begin with. */
final class Makings {
    /** Pointers 1, 2 and 3 run to the "@"; pointer 0 goes down and outputs five values in each round of row 1. */
    private static final String FOUR_POINTERS = "tttv@\n1. >3.4.5.6.";
    /** Pointer 0 comes to row 1 with tick 4; then five rounds of twelve ticks. */
    private static final int FIVE_ROUNDS = 64;

    private Makings() {
    }

    /** A machine in whose state everything differs from that of a new one; slot 0 is empty, the text is valid. */
    static GridMachine busy() {
        GridMachine x = Due.machine("12t3.~0{4w\n  @");
        x.feed(7);
        x.feed(-8);
        x.feed(9);
        x.poke(5, 5, 'Q');
        x.setBreakpoint(3, 3, 1);
        x.setBreakpoint(10, 0, 1);
        x.tick(4);
        x.save(1);
        x.tick(4);
        Due.type(x, "9w\n~v");
        return x;
    }

    /** Text, queue, output, saved states, snapshots, pointers, and the stacks of pointer 0: all are full. */
    static GridMachine full() {
        GridMachine x = Due.machine(FOUR_POINTERS);
        x.tick(FIVE_ROUNDS);
        perform(x, "12340{56780{901234");
        x.setBreakpoint(7, 1, 1);
        x.setBreakpoint(11, 5, 1);
        x.save(0);
        for (int i = 0; i < 8; i++) {
            x.feed(100 + i);
        }
        x.save(1);
        perform(x, "56");
        for (int i = 8; i < 15; i++) {
            x.feed(100 + i);
        }
        // Pointer 0 goes round column 11 from here on, with its sixteen values.
        perform(x, "v");
        x.feed(115);
        Due.type(x, "x".repeat(90));
        return x;
    }

    /** A machine with a stopped and a faulted pointer, and a text that is not valid. */
    static GridMachine halted() {
        GridMachine x = Due.machine("t111111111v\n          >");
        x.poke(11, 0, '@');
        x.feed(-5);
        x.setBreakpoint(0, 0, 1);
        x.save(0);
        x.poke(11, 1, '1');
        x.tick(200);
        Due.type(x, "ab\t");
        return x;
    }

    /** Lets pointer 0 execute instructions wherever it is: each is poked into its cell. */
    static void perform(GridMachine x, String instructions) {
        for (int i = 0; i < instructions.length(); i++) {
            int cell = x.position(0);
            x.poke(cell % 12, cell / 12, instructions.charAt(i));
            x.tick(1);
        }
    }

    /** Lets pointer 0 push any values, by way of the input queue, which must be empty. */
    static void push(GridMachine x, int... values) {
        for (int value : values) {
            x.feed(value);
            perform(x, "~");
        }
    }

    /** A machine whose pointer 0 holds these stacks, with the last one as the current one, and goes right in row 0. */
    static GridMachine holding(int[]... stacks) {
        GridMachine x = new GridMachine();
        for (int i = 0; i < stacks.length; i++) {
            if (i > 0) {
                perform(x, "0{");
            }
            push(x, stacks[i]);
        }
        return x;
    }

    /** The values 1 to count. */
    static int[] upTo(int count) {
        int[] values = new int[count];
        for (int i = 0; i < count; i++) {
            values[i] = i + 1;
        }
        return values;
    }

    /** A machine of spaces whose pointer 0 is in a cell and goes in a direction. */
    static GridMachine going(int column, int row, int direction) {
        int[] columnSteps = {1, 0, -1, 0};
        int[] rowSteps = {0, 1, 0, -1};
        GridMachine x = new GridMachine();
        stepTimes(x, '>', Math.floorMod(column - columnSteps[direction], 12));
        stepTimes(x, 'v', Math.floorMod(row - rowSteps[direction], 6));
        stepTimes(x, ">v<^".charAt(direction), 1);
        return x;
    }

    /** The cells that are left become spaces again. */
    private static void stepTimes(GridMachine x, char arrow, int times) {
        for (int i = 0; i < times; i++) {
            int cell = x.position(0);
            perform(x, "" + arrow);
            x.poke(cell % 12, cell / 12, ' ');
        }
    }
}
