/**
 * An interpreter for a two-dimensional, self-modifying stack language in the manner of Befunge, with several
 * instruction pointers, stacks of stacks, breakpoints, cycle detection and undo.
 *
 * <p>All rows are made in the constructor and used again, so that no call makes an object.
 */
public final class GridMachine {

    /** An argument is out of range. */
    public static final int INVALID_ARGUMENT = -1;
    /** The call is not possible in the present state. */
    public static final int ILLEGAL_STATE = -2;
    /** The text or the input queue is full. */
    public static final int CAPACITY_EXCEEDED = -3;
    /** There is no such value. */
    public static final int NONE = -9;

    private static final int COLUMNS = 12;
    private static final int ROWS = 6;
    private static final int CELLS = 72;

    private static final int LINE_END = 10;
    private static final int SPACE = 32;
    private static final int LAST_CODE = 126;
    private static final int LAST_CHARACTER = 255;

    private static final int TEXT_LIMIT = 90;
    private static final int TICK_LIMIT = 200;
    private static final int POINTER_LIMIT = 4;
    private static final int STACK_LIMIT = 3;
    private static final int VALUE_LIMIT = 16;
    private static final int SLEEP_LIMIT = 9;
    private static final int INPUT_LIMIT = 16;
    private static final int OUTPUT_LIMIT = 20;
    private static final int UNDO_LIMIT = 6;
    private static final int SLOT_COUNT = 2;

    private static final int INVALID_PROGRAM_BASE = -10;

    private static final int RIGHT = 0;
    private static final int DOWN = 1;
    private static final int LEFT = 2;
    private static final int UP = 3;

    private static final int QUARTER_RIGHT = 1;
    private static final int HALF_TURN = 2;
    private static final int QUARTER_LEFT = 3;

    private static final int RUNNING = 0;
    private static final int STOPPED = 1;
    private static final int FAULTED = 2;

    private final int[] text;
    private int textLength;

    private final boolean[] breakpoints;
    private int breakpointCount;

    private final State state;

    private final State[] undoStates;
    private int undoCount;

    private final State[] snapshots;
    private final boolean[] snapshotTaken;

    /** Two states in which the predictions tick, so that the state itself stays as it is. */
    private final State trial;
    private final State secondTrial;

    public GridMachine() {
        text = new int[TEXT_LIMIT];
        breakpoints = new boolean[CELLS];
        state = new State();
        undoStates = new State[UNDO_LIMIT];
        for (int i = 0; i < UNDO_LIMIT; i++) {
            undoStates[i] = new State();
        }
        snapshots = new State[SLOT_COUNT];
        for (int i = 0; i < SLOT_COUNT; i++) {
            snapshots[i] = new State();
        }
        snapshotTaken = new boolean[SLOT_COUNT];
        trial = new State();
        secondTrial = new State();
    }

    // ---- program

    public int append(int character) {
        if (character < 0 || character > LAST_CHARACTER) {
            return INVALID_ARGUMENT;
        }
        if (textLength >= TEXT_LIMIT) {
            return CAPACITY_EXCEEDED;
        }
        text[textLength] = character;
        textLength++;
        return textLength;
    }

    public int clearText() {
        int previous = textLength;
        textLength = 0;
        return previous;
    }

    public int load() {
        int error = errorPosition();
        if (error != NONE) {
            return INVALID_PROGRAM_BASE - error;
        }
        keepForUndo();
        readProgram();
        textLength = 0;
        state.inputCount = 0;
        state.beginRun();
        return state.countFilledCells();
    }

    public int rewind() {
        int previous = state.ticks;
        keepForUndo();
        state.beginRun();
        return previous;
    }

    public int feed(int value) {
        if (state.inputCount >= INPUT_LIMIT) {
            return CAPACITY_EXCEEDED;
        }
        keepForUndo();
        state.addInput(value);
        return state.inputCount;
    }

    public int poke(int x, int y, int code) {
        if (!isCell(x, y) || !isCode(code)) {
            return INVALID_ARGUMENT;
        }
        keepForUndo();
        int cell = COLUMNS * y + x;
        int previous = state.grid[cell];
        state.grid[cell] = code;
        return previous;
    }

    // ---- execution

    public int tick(int limit) {
        return advance(limit, false);
    }

    public int run(int limit) {
        return advance(limit, true);
    }

    public int setBreakpoint(int x, int y, int on) {
        if (!isCell(x, y) || on < 0 || on > 1) {
            return INVALID_ARGUMENT;
        }
        int cell = COLUMNS * y + x;
        boolean wanted = on == 1;
        if (breakpoints[cell] == wanted) {
            return ILLEGAL_STATE;
        }
        breakpoints[cell] = wanted;
        breakpointCount += wanted ? 1 : -1;
        return breakpointCount;
    }

    public int undo() {
        if (undoCount <= 0) {
            return ILLEGAL_STATE;
        }
        undoCount--;
        state.copyFrom(undoStates[undoCount]);
        return undoCount;
    }

    // ---- prediction

    public int ticksToHalt(int limit) {
        if (!isTickLimit(limit)) {
            return INVALID_ARGUMENT;
        }
        trial.copyFrom(state);
        int done = 0;
        while (done < limit && !trial.isHalted()) {
            trial.performTick();
            done++;
        }
        return trial.isHalted() ? done : NONE;
    }

    public int cycleStart(int limit) {
        if (!isTickLimit(limit)) {
            return INVALID_ARGUMENT;
        }
        int period = findPeriod(limit);
        return period == NONE ? NONE : findCycleEntry(limit, period);
    }

    public int cycleLength(int limit) {
        if (!isTickLimit(limit)) {
            return INVALID_ARGUMENT;
        }
        int period = findPeriod(limit);
        if (period == NONE || findCycleEntry(limit, period) == NONE) {
            return NONE;
        }
        return period;
    }

    // ---- grid and pointers

    public int cellAt(int x, int y) {
        return isCell(x, y) ? state.grid[COLUMNS * y + x] : INVALID_ARGUMENT;
    }

    public int changedCells() {
        int changed = 0;
        for (int cell = 0; cell < CELLS; cell++) {
            if (state.grid[cell] != state.program[cell]) {
                changed++;
            }
        }
        return changed;
    }

    public int pointerCount() {
        return state.pointersUsed;
    }

    public int pointerAt(int place) {
        // Places and identifiers both count the pointers from 0, so one test serves both.
        return isPointer(place) ? state.order[place] : INVALID_ARGUMENT;
    }

    public int position(int pointer) {
        return isPointer(pointer) ? state.pointers[pointer].cell() : INVALID_ARGUMENT;
    }

    public int direction(int pointer) {
        return isPointer(pointer) ? state.pointers[pointer].heading : INVALID_ARGUMENT;
    }

    public int status(int pointer) {
        return isPointer(pointer) ? state.pointers[pointer].condition : INVALID_ARGUMENT;
    }

    public int sleep(int pointer) {
        return isPointer(pointer) ? state.pointers[pointer].sleepLeft : INVALID_ARGUMENT;
    }

    public int stackCount(int pointer) {
        return isPointer(pointer) ? state.pointers[pointer].stacksUsed : INVALID_ARGUMENT;
    }

    public int stackSize(int pointer, int stack) {
        return isStack(pointer, stack) ? state.pointers[pointer].sizes[stack] : INVALID_ARGUMENT;
    }

    public int valueAt(int pointer, int stack, int index) {
        if (!isStack(pointer, stack)) {
            return 0;
        }
        Pointer owner = state.pointers[pointer];
        if (index < 0 || index >= owner.sizes[stack]) {
            return 0;
        }
        return owner.values[owner.stackBegin(stack) + index];
    }

    // ---- input and output

    public int inputSize() {
        return state.inputCount;
    }

    public int outputSize() {
        return state.outputCount;
    }

    public int outputAt(int index) {
        return index >= 0 && index < state.outputCount ? state.output[index] : 0;
    }

    public int outputTotal() {
        return state.outputEver;
    }

    public int tickCount() {
        return state.ticks;
    }

    // ---- snapshots

    public int save(int slot) {
        if (slot < 0 || slot >= SLOT_COUNT) {
            return INVALID_ARGUMENT;
        }
        snapshots[slot].copyFrom(state);
        snapshotTaken[slot] = true;
        return state.ticks;
    }

    public int restore(int slot) {
        if (slot < 0 || slot >= SLOT_COUNT) {
            return INVALID_ARGUMENT;
        }
        if (!snapshotTaken[slot]) {
            return ILLEGAL_STATE;
        }
        state.copyFrom(snapshots[slot]);
        undoCount = 0;
        return state.ticks;
    }

    public int undoDepth() {
        return undoCount;
    }

    // ---- the tests of arguments

    private static boolean isCell(int x, int y) {
        return x >= 0 && x < COLUMNS && y >= 0 && y < ROWS;
    }

    private static boolean isCode(int code) {
        return code >= SPACE && code <= LAST_CODE;
    }

    private static boolean isTickLimit(int limit) {
        return limit >= 1 && limit <= TICK_LIMIT;
    }

    private boolean isPointer(int pointer) {
        return pointer >= 0 && pointer < state.pointersUsed;
    }

    private boolean isStack(int pointer, int stack) {
        return isPointer(pointer) && stack >= 0 && stack < state.pointers[pointer].stacksUsed;
    }

    // ---- the text

    /** Returns the offset of the first character that makes the text invalid, or NONE. */
    private int errorPosition() {
        int row = 0;
        int column = 0;
        for (int offset = 0; offset < textLength; offset++) {
            int character = text[offset];
            if (row >= ROWS) {
                return offset;
            }
            if (character == LINE_END) {
                row++;
                column = 0;
            } else if (column >= COLUMNS || !isCode(character)) {
                return offset;
            } else {
                column++;
            }
        }
        return NONE;
    }

    /** Makes the text, which is a valid program, the loaded program. */
    private void readProgram() {
        for (int cell = 0; cell < CELLS; cell++) {
            state.program[cell] = SPACE;
        }
        int row = 0;
        int column = 0;
        for (int offset = 0; offset < textLength; offset++) {
            int character = text[offset];
            if (character == LINE_END) {
                row++;
                column = 0;
            } else if (isCell(column, row)) {
                state.program[COLUMNS * row + column] = character;
                column++;
            }
        }
    }

    // ---- ticks and undo

    /** Saves the state; the oldest saved state gives up its place when all places are taken. */
    private void keepForUndo() {
        if (undoCount >= UNDO_LIMIT) {
            State oldest = undoStates[0];
            for (int i = 1; i < UNDO_LIMIT; i++) {
                undoStates[i - 1] = undoStates[i];
            }
            undoStates[UNDO_LIMIT - 1] = oldest;
            undoCount = UNDO_LIMIT - 1;
        }
        undoStates[undoCount].copyFrom(state);
        undoCount++;
    }

    /** Performs ticks until the machine is halted or, if so wished, a breakpoint is reached. */
    private int advance(int limit, boolean heedBreakpoints) {
        if (!isTickLimit(limit)) {
            return INVALID_ARGUMENT;
        }
        if (state.isHalted()) {
            return ILLEGAL_STATE;
        }
        keepForUndo();
        int done = 0;
        while (done < limit && !state.isHalted()) {
            state.performTick();
            done++;
            if (heedBreakpoints && atBreakpoint()) {
                break;
            }
        }
        return done;
    }

    private boolean atBreakpoint() {
        for (int i = 0; i < state.pointersUsed; i++) {
            Pointer pointer = state.pointers[i];
            if (pointer.condition == RUNNING && pointer.sleepLeft == 0 && breakpoints[pointer.cell()]) {
                return true;
            }
        }
        return false;
    }

    // ---- prediction

    /**
     * Returns the number of ticks after which the configuration behind limit ticks recurs, or NONE. A configuration
     * settles all that follow it; so if any configuration up to limit recurs by then, the one behind limit ticks is
     * in the same cycle, and its period is that of the cycle.
     */
    private int findPeriod(int limit) {
        trial.copyFrom(state);
        for (int i = 0; i < limit; i++) {
            trial.performTick();
        }
        // A pointer that is not running never runs again, so a machine that halted on the way is halted still.
        if (trial.isHalted()) {
            return NONE;
        }
        secondTrial.copyFrom(trial);
        for (int period = 1; period <= limit; period++) {
            secondTrial.performTick();
            if (secondTrial.hasConfigurationOf(trial)) {
                return period;
            }
        }
        return NONE;
    }

    /** Returns the first configuration that recurs a period later, and by then within limit ticks, or NONE. */
    private int findCycleEntry(int limit, int period) {
        trial.copyFrom(state);
        secondTrial.copyFrom(state);
        for (int i = 0; i < period; i++) {
            secondTrial.performTick();
        }
        for (int entry = 0; entry + period <= limit; entry++) {
            if (secondTrial.hasConfigurationOf(trial)) {
                return entry;
            }
            trial.performTick();
            secondTrial.performTick();
        }
        return NONE;
    }

    /** All that undo and the snapshots bring back. */
    private static final class State {
        final int[] program = new int[CELLS];
        final int[] grid = new int[CELLS];
        /** The pointers by their identifiers. */
        final Pointer[] pointers = new Pointer[POINTER_LIMIT];
        /** The identifiers in the execution order. */
        final int[] order = new int[POINTER_LIMIT];
        int pointersUsed;
        final int[] input = new int[INPUT_LIMIT];
        int inputCount;
        final int[] output = new int[OUTPUT_LIMIT];
        int outputCount;
        int outputEver;
        int ticks;

        State() {
            for (int cell = 0; cell < CELLS; cell++) {
                program[cell] = SPACE;
                grid[cell] = SPACE;
            }
            for (int i = 0; i < POINTER_LIMIT; i++) {
                pointers[i] = new Pointer();
            }
            pointersUsed = 1;
        }

        void copyFrom(State other) {
            System.arraycopy(other.program, 0, program, 0, CELLS);
            System.arraycopy(other.grid, 0, grid, 0, CELLS);
            pointersUsed = other.pointersUsed;
            for (int i = 0; i < pointersUsed; i++) {
                pointers[i].copyFrom(other.pointers[i]);
                order[i] = other.order[i];
            }
            System.arraycopy(other.input, 0, input, 0, INPUT_LIMIT);
            inputCount = other.inputCount;
            System.arraycopy(other.output, 0, output, 0, OUTPUT_LIMIT);
            outputCount = other.outputCount;
            outputEver = other.outputEver;
            ticks = other.ticks;
        }

        boolean hasConfigurationOf(State other) {
            if (pointersUsed != other.pointersUsed || inputCount != other.inputCount) {
                return false;
            }
            for (int i = 0; i < pointersUsed; i++) {
                if (order[i] != other.order[i] || !pointers[i].isLike(other.pointers[i])) {
                    return false;
                }
            }
            for (int i = 0; i < inputCount; i++) {
                if (input[i] != other.input[i]) {
                    return false;
                }
            }
            for (int cell = 0; cell < CELLS; cell++) {
                if (grid[cell] != other.grid[cell]) {
                    return false;
                }
            }
            return true;
        }

        /** Begins a new run of the loaded program; the input queue stays. */
        void beginRun() {
            System.arraycopy(program, 0, grid, 0, CELLS);
            pointers[0].reset();
            order[0] = 0;
            pointersUsed = 1;
            outputCount = 0;
            outputEver = 0;
            ticks = 0;
        }

        int countFilledCells() {
            int filled = 0;
            for (int cell = 0; cell < CELLS; cell++) {
                if (grid[cell] != SPACE) {
                    filled++;
                }
            }
            return filled;
        }

        boolean isHalted() {
            for (int i = 0; i < pointersUsed; i++) {
                if (pointers[i].condition == RUNNING) {
                    return false;
                }
            }
            return true;
        }

        void addInput(int value) {
            if (inputCount < INPUT_LIMIT) {
                input[inputCount] = value;
                inputCount++;
            }
        }

        void performTick() {
            int existing = pointersUsed;
            // A split makes the list longer while it is gone through, so the loop's bound is the longest list.
            for (int place = 0; place < POINTER_LIMIT; place++) {
                // Identifiers follow the order of creation: one that is not below this number is new in this tick.
                if (place < pointersUsed && order[place] < existing) {
                    takeTurn(place);
                }
            }
            ticks++;
        }

        private void takeTurn(int place) {
            Pointer pointer = pointers[order[place]];
            if (pointer.condition != RUNNING) {
                return;
            }
            if (pointer.sleepLeft > 0) {
                pointer.sleepLeft--;
                return;
            }
            int code = grid[pointer.cell()];
            switch (code) {
                case 'g':
                    fetchCell(pointer);
                    break;
                case 'p':
                    storeCell(pointer);
                    break;
                case '.':
                    addOutput(pointer.pop());
                    break;
                case '~':
                    takeInput(pointer);
                    break;
                case 't':
                    split(place);
                    break;
                default:
                    pointer.perform(code);
                    break;
            }
            if (pointer.condition == RUNNING) {
                pointer.step();
            }
        }

        private static int wrappedCell(int x, int y) {
            return COLUMNS * Math.floorMod(y, ROWS) + Math.floorMod(x, COLUMNS);
        }

        private void fetchCell(Pointer pointer) {
            int y = pointer.pop();
            int x = pointer.pop();
            pointer.push(grid[wrappedCell(x, y)]);
        }

        private void storeCell(Pointer pointer) {
            int y = pointer.pop();
            int x = pointer.pop();
            int code = pointer.pop();
            if (isCode(code)) {
                grid[wrappedCell(x, y)] = code;
            }
        }

        private void addOutput(int value) {
            if (outputCount >= OUTPUT_LIMIT) {
                System.arraycopy(output, 1, output, 0, OUTPUT_LIMIT - 1);
                outputCount = OUTPUT_LIMIT - 1;
            }
            output[outputCount] = value;
            outputCount++;
            outputEver++;
        }

        private void takeInput(Pointer pointer) {
            if (inputCount <= 0) {
                pointer.turn(HALF_TURN);
                return;
            }
            int value = input[0];
            inputCount--;
            System.arraycopy(input, 1, input, 0, inputCount);
            pointer.push(value);
        }

        private void split(int place) {
            if (pointersUsed >= POINTER_LIMIT) {
                return;
            }
            int identifier = pointersUsed;
            Pointer twin = pointers[identifier];
            twin.copyFrom(pointers[order[place]]);
            twin.turn(HALF_TURN);
            twin.step();
            for (int i = pointersUsed; i > place + 1; i--) {
                order[i] = order[i - 1];
            }
            order[place + 1] = identifier;
            pointersUsed++;
        }
    }

    /** An instruction pointer with its stacks; what it can do without the rest of the machine. */
    private static final class Pointer {
        int column;
        int row;
        int heading;
        int condition;
        int sleepLeft;
        /** The values of all stacks end to end, so that the current stack, the last one, ends where the values end. */
        final int[] values = new int[VALUE_LIMIT];
        int valuesUsed;
        final int[] sizes = new int[STACK_LIMIT];
        int stacksUsed = 1;

        void reset() {
            column = 0;
            row = 0;
            heading = RIGHT;
            condition = RUNNING;
            sleepLeft = 0;
            valuesUsed = 0;
            sizes[0] = 0;
            stacksUsed = 1;
        }

        void copyFrom(Pointer other) {
            column = other.column;
            row = other.row;
            heading = other.heading;
            condition = other.condition;
            sleepLeft = other.sleepLeft;
            System.arraycopy(other.values, 0, values, 0, VALUE_LIMIT);
            valuesUsed = other.valuesUsed;
            System.arraycopy(other.sizes, 0, sizes, 0, STACK_LIMIT);
            stacksUsed = other.stacksUsed;
        }

        boolean isLike(Pointer other) {
            if (column != other.column || row != other.row || heading != other.heading) {
                return false;
            }
            if (condition != other.condition || sleepLeft != other.sleepLeft) {
                return false;
            }
            if (valuesUsed != other.valuesUsed || stacksUsed != other.stacksUsed) {
                return false;
            }
            for (int i = 0; i < stacksUsed; i++) {
                if (sizes[i] != other.sizes[i]) {
                    return false;
                }
            }
            for (int i = 0; i < valuesUsed; i++) {
                if (values[i] != other.values[i]) {
                    return false;
                }
            }
            return true;
        }

        int cell() {
            return COLUMNS * row + column;
        }

        /** Returns the place in values at which a stack begins. */
        int stackBegin(int stack) {
            int begin = 0;
            for (int i = 0; i < stack; i++) {
                begin += sizes[i];
            }
            return begin;
        }

        void step() {
            switch (heading) {
                case RIGHT:
                    column = column < COLUMNS - 1 ? column + 1 : 0;
                    break;
                case DOWN:
                    row = row < ROWS - 1 ? row + 1 : 0;
                    break;
                case LEFT:
                    column = column > 0 ? column - 1 : COLUMNS - 1;
                    break;
                default:
                    row = row > 0 ? row - 1 : ROWS - 1;
                    break;
            }
        }

        /** Turns right by so many quarters. */
        void turn(int quarters) {
            heading = (heading + quarters) & 3;
        }

        int pop() {
            int current = stacksUsed - 1;
            if (sizes[current] <= 0) {
                return 0;
            }
            sizes[current]--;
            valuesUsed--;
            return values[valuesUsed];
        }

        void push(int value) {
            // A pointer that is full stays so, so that a second push of the same instruction fails with the first.
            if (valuesUsed >= VALUE_LIMIT) {
                condition = FAULTED;
                return;
            }
            values[valuesUsed] = value;
            valuesUsed++;
            sizes[stacksUsed - 1]++;
        }

        void perform(int code) {
            if (code >= '0' && code <= '9') {
                push(code - '0');
                return;
            }
            switch (code) {
                case '+':
                case '-':
                case '*':
                case '/':
                case '%':
                case '`':
                    int second = pop();
                    int first = pop();
                    push(combine(code, first, second));
                    break;
                case '!':
                    push(pop() == 0 ? 1 : 0);
                    break;
                case ':':
                    int value = pop();
                    push(value);
                    push(value);
                    break;
                case '\\':
                    int upper = pop();
                    int lower = pop();
                    push(upper);
                    push(lower);
                    break;
                case '$':
                    pop();
                    break;
                case '{':
                    openStack(pop());
                    break;
                case '}':
                    closeStack();
                    break;
                case 'w':
                    sleepLeft = Math.max(0, Math.min(SLEEP_LIMIT, pop()));
                    break;
                case '@':
                    condition = STOPPED;
                    break;
                default:
                    steer(code);
                    break;
            }
        }

        private static int combine(int code, int first, int second) {
            switch (code) {
                case '+':
                    return first + second;
                case '-':
                    return first - second;
                case '*':
                    return first * second;
                case '/':
                    return second == 0 ? 0 : first / second;
                case '%':
                    return second == 0 ? 0 : first % second;
                default:
                    return first > second ? 1 : 0;
            }
        }

        /** Performs the instructions that turn or move the pointer; all characters without a meaning end here. */
        private void steer(int code) {
            switch (code) {
                case '>':
                    heading = RIGHT;
                    break;
                case 'v':
                    heading = DOWN;
                    break;
                case '<':
                    heading = LEFT;
                    break;
                case '^':
                    heading = UP;
                    break;
                case '_':
                    heading = pop() == 0 ? RIGHT : LEFT;
                    break;
                case '|':
                    heading = pop() == 0 ? DOWN : UP;
                    break;
                case '[':
                    turn(QUARTER_LEFT);
                    break;
                case ']':
                    turn(QUARTER_RIGHT);
                    break;
                case 'r':
                    turn(HALF_TURN);
                    break;
                case '#':
                    step();
                    break;
                default:
                    break;
            }
        }

        /** Returns how many values of the current stack are moved if so many are asked for. */
        private int movable(int wanted) {
            int size = sizes[stacksUsed - 1];
            if (wanted < 0) {
                return 0;
            }
            return wanted > size ? size : wanted;
        }

        /** Only the border between the stacks is set: the moved values already stand where the new stack begins. */
        private void openStack(int wanted) {
            if (stacksUsed >= STACK_LIMIT) {
                return;
            }
            int moved = movable(wanted);
            sizes[stacksUsed - 1] -= moved;
            sizes[stacksUsed] = moved;
            stacksUsed++;
        }

        private void closeStack() {
            if (stacksUsed <= 1) {
                turn(HALF_TURN);
                return;
            }
            int moved = movable(pop());
            int current = stacksUsed - 1;
            int begin = valuesUsed - sizes[current];
            System.arraycopy(values, valuesUsed - moved, values, begin, moved);
            valuesUsed = begin + moved;
            sizes[current - 1] += moved;
            stacksUsed--;
        }
    }
}
