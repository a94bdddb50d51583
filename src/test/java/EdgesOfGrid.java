/** The boundary cases of the grid and of moving in it, which tick() shows: promise 8. */
final class EdgesOfGrid {
    private static final int MIN = Edge.MIN;
    private static final int MAX = Edge.MAX;
    private static final int RIGHT = 0;
    private static final int DOWN = 1;
    private static final int LEFT = 2;
    private static final int UP = 3;
    /** Coordinates and the columns and rows they lead to. */
    private static final int[][] COLUMNS = {{0, 0}, {11, 11}, {12, 0}, {13, 1}, {23, 11}, {24, 0}, {-1, 11}, {-11, 1},
        {-12, 0}, {-13, 11}, {MIN, 4}, {MAX, 7}};
    private static final int[][] ROWS = {{0, 0}, {5, 5}, {6, 0}, {7, 1}, {11, 5}, {12, 0}, {-1, 5}, {-5, 1}, {-6, 0},
        {-7, 5}, {MIN, 4}, {MAX, 1}};

    private EdgesOfGrid() {
    }

    static void all() {
        promise8Sides();
        promise8Arrows();
        promise8Turns();
        promise8Branches();
        promise8Skips();
        promise8Addresses();
        promise8Fetches();
        promise8Stores();
        promise8StoredCodes();
        promise8OtherCharacters();
    }

    private static void isAt(String what, GridMachine x, int column, int row, int direction) {
        Edge.is(what + ": position(0)", x.position(0), 12 * row + column);
        Edge.is(what + ": direction(0)", x.direction(0), direction);
    }

    private static void moves(int column, int row, int direction, int toColumn, int toRow) {
        GridMachine x = Makings.going(column, row, direction);
        isAt("before", x, column, row, direction);
        x.tick(1);
        isAt("from column " + column + ", row " + row, x, toColumn, toRow, direction);
    }

    private static void promise8Sides() {
        Edge.says(8, "The grid wraps around: a pointer that leaves it at one side enters it at the opposite side of "
                + "the same row or column.");
        for (int row = 0; row < 6; row++) {
            moves(10, row, RIGHT, 11, row);
            moves(11, row, RIGHT, 0, row);
            moves(1, row, LEFT, 0, row);
            moves(0, row, LEFT, 11, row);
        }
        for (int column = 0; column < 12; column++) {
            moves(column, 4, DOWN, column, 5);
            moves(column, 5, DOWN, column, 0);
            moves(column, 1, UP, column, 0);
            moves(column, 0, UP, column, 5);
        }
    }

    /** An instruction in a corner, from each direction. */
    private static void turns(String instruction, int from, int to, int... stack) {
        int[][] corners = {{0, 0}, {11, 0}, {0, 5}, {11, 5}, {5, 3}};
        int[] columnSteps = {1, 0, -1, 0};
        int[] rowSteps = {0, 1, 0, -1};
        for (int[] corner : corners) {
            GridMachine x = Makings.going(corner[0], corner[1], from);
            Makings.perform(x, instruction);
            int column = Math.floorMod(corner[0] + columnSteps[to], 12);
            int row = Math.floorMod(corner[1] + rowSteps[to], 6);
            isAt(instruction + " from direction " + from, x, column, row, to);
            Edge.stack(instruction, x, 0, 0, stack);
        }
    }

    private static void promise8Arrows() {
        Edge.says(8, "> v < ^ set the direction to right, down, left, up");
        for (int from = 0; from < 4; from++) {
            turns(">", from, RIGHT);
            turns("v", from, DOWN);
            turns("<", from, LEFT);
            turns("^", from, UP);
        }
        Edge.says(8, "Otherwise the pointer executes the instruction in its cell and then, if it is still running, "
                + "moves one cell in its (possibly changed) direction.");
        isAt("v", Due.ticked("v", 1), 0, 1, DOWN);
        isAt("@", Due.ticked("@", 1), 0, 0, RIGHT);
    }

    private static void promise8Turns() {
        Edge.says(8, "[ turn left by 90 degrees");
        turns("[", RIGHT, UP);
        turns("[", UP, LEFT);
        turns("[", LEFT, DOWN);
        turns("[", DOWN, RIGHT);
        Edge.says(8, "] turn right by 90 degrees");
        turns("]", RIGHT, DOWN);
        turns("]", DOWN, LEFT);
        turns("]", LEFT, UP);
        turns("]", UP, RIGHT);
        Edge.says(8, "r reverse the direction");
        turns("r", RIGHT, LEFT);
        turns("r", LEFT, RIGHT);
        turns("r", DOWN, UP);
        turns("r", UP, DOWN);
    }

    private static void branch(String instruction, int value, int direction) {
        GridMachine x = Makings.holding(new int[] {7, value});
        Makings.perform(x, instruction);
        Edge.is(instruction + " of " + value + ": direction(0)", x.direction(0), direction);
        Edge.stack(instruction + " of " + value, x, 0, 0, 7);
    }

    private static void promise8Branches() {
        int[] others = {1, -1, 2, 256, MIN, MAX};
        Edge.says(8, "_ pop a, set the direction to right if a is 0, otherwise to left");
        branch("_", 0, RIGHT);
        for (int value : others) {
            branch("_", value, LEFT);
        }
        for (int from = 0; from < 4; from++) {
            turns("_", from, RIGHT);
        }
        Edge.says(8, "| pop a, set the direction to down if a is 0, otherwise to up");
        branch("|", 0, DOWN);
        for (int value : others) {
            branch("|", value, UP);
        }
        for (int from = 0; from < 4; from++) {
            turns("|", from, DOWN);
        }
    }

    private static void skips(int column, int row, int direction, int toColumn, int toRow) {
        GridMachine x = Makings.going(column, row, direction);
        Makings.perform(x, "#");
        isAt("# in column " + column + ", row " + row, x, toColumn, toRow, direction);
    }

    private static void promise8Skips() {
        Edge.says(8, "# move one cell in the present direction (so that one cell is skipped)");
        skips(9, 2, RIGHT, 11, 2);
        skips(10, 2, RIGHT, 0, 2);
        skips(11, 2, RIGHT, 1, 2);
        skips(2, 2, LEFT, 0, 2);
        skips(1, 2, LEFT, 11, 2);
        skips(0, 2, LEFT, 10, 2);
        skips(7, 3, DOWN, 7, 5);
        skips(7, 4, DOWN, 7, 0);
        skips(7, 5, DOWN, 7, 1);
        skips(7, 2, UP, 7, 0);
        skips(7, 1, UP, 7, 5);
        skips(7, 0, UP, 7, 4);
        Edge.is("the skipped \"@\" is not executed", Due.ticked("#@", 2).status(0), 0);
        Edge.is("the skipped \"@\" in column 0", skippedFirst().status(0), 0);
    }

    private static GridMachine skippedFirst() {
        GridMachine x = Due.ticked("           #", 11);
        x.poke(0, 0, '@');
        x.tick(2);
        return x;
    }

    /** A grid of cells that all differ, but that it begins with an instruction sequence. */
    private static GridMachine different(String program) {
        StringBuilder text = new StringBuilder();
        char code = '!';
        for (int cell = 0; cell < 72; cell++) {
            boolean given = cell < program.length();
            while (!given && (code == 'g' || code == 'p')) {
                code++;
            }
            text.append(given ? program.charAt(cell) : code).append(cell % 12 == 11 ? "\n" : "");
            code += given ? 0 : 1;
        }
        return Due.machine(text.toString());
    }

    private static void promise8Addresses() {
        Edge.says(8, "Wherever a cell is addressed by a program, its column is floorMod(x, 12) and its row is "
                + "floorMod(y, 6).");
        for (int[] column : COLUMNS) {
            fetches(column, ROWS[1]);
            stores(column, ROWS[1]);
        }
        for (int[] row : ROWS) {
            fetches(COLUMNS[1], row);
            stores(COLUMNS[1], row);
        }
    }

    private static void fetches(int[] column, int[] row) {
        GridMachine x = different("~~g");
        x.feed(column[0]);
        x.feed(row[0]);
        x.tick(3);
        int due = different("~~g").cellAt(column[1], row[1]);
        Edge.stack("g of " + column[0] + ", " + row[0], x, 0, 0, due);
        Edge.is("g changes no cell", x.changedCells(), 0);
    }

    private static void stores(int[] column, int[] row) {
        GridMachine x = different("~~~p");
        x.feed('~');
        x.feed(column[0]);
        x.feed(row[0]);
        x.tick(4);
        String what = "p of " + column[0] + ", " + row[0];
        Edge.is(what, x.cellAt(column[1], row[1]), '~');
        boolean same = different("~~~p").cellAt(column[1], row[1]) == '~';
        Edge.is(what + ": changedCells()", x.changedCells(), same ? 0 : 1);
    }

    private static void promise8Fetches() {
        Edge.says(8, "g pop y, pop x, push the code of cell (x, y)");
        fetches(new int[] {11, 11}, new int[] {5, 5});
        fetches(new int[] {5, 5}, new int[] {0, 0});
        fetches(new int[] {0, 0}, new int[] {5, 5});
        fetches(new int[] {4, 4}, new int[] {3, 3});
        fetches(new int[] {MIN, 4}, new int[] {MIN, 4});
        fetches(new int[] {MAX, 7}, new int[] {MAX, 1});
        GridMachine least = Makings.holding(new int[] {11, 5});
        Makings.perform(least, "g");
        Edge.stack("g of a space", least, 0, 0, 32);
        GridMachine greatest = Makings.holding(new int[] {11, 5});
        greatest.poke(11, 5, 126);
        Makings.perform(greatest, "g");
        Edge.stack("g of code 126", greatest, 0, 0, 126);
        Edge.stack("g of an empty stack, cell (0, 0)", Due.ticked("g", 1), 0, 0, 'g');
        // The one value is the row; the column is the 0 of the empty stack.
        Edge.stack("g of one value", Due.ticked("1g\nZ", 2), 0, 0, 'Z');
    }

    private static void promise8Stores() {
        Edge.says(8, "p pop y, pop x, pop a; store a in cell (x, y) if a is from 32 to 126, otherwise do nothing more");
        stores(new int[] {11, 11}, new int[] {5, 5});
        stores(new int[] {5, 5}, new int[] {0, 0});
        stores(new int[] {0, 0}, new int[] {5, 5});
        stores(new int[] {4, 4}, new int[] {3, 3});
        stores(new int[] {MIN, 4}, new int[] {MIN, 4});
        stores(new int[] {MAX, 7}, new int[] {MAX, 1});
        int[] taken = {32, 33, 125, 126};
        for (int code : taken) {
            GridMachine x = Makings.holding(new int[] {7, code, 11, 5});
            x.poke(11, 5, 'Z');
            Makings.perform(x, "p");
            Edge.is("p of " + code, x.cellAt(11, 5), code);
            Edge.stack("p of " + code, x, 0, 0, 7);
        }
        int[] others = {31, 127, 0, 10, -1, -32, 32 + 256, MIN, MAX};
        for (int code : others) {
            GridMachine x = Makings.holding(new int[] {7, code, 11, 5});
            x.poke(11, 5, 'Z');
            Makings.perform(x, "p");
            Edge.is("p of " + code, x.cellAt(11, 5), 'Z');
            Edge.stack("p of " + code, x, 0, 0, 7);
            Edge.is("p of " + code + ": status(0)", x.status(0), 0);
        }
        GridMachine empty = Due.ticked("p", 1);
        Edge.is("p of an empty stack: changedCells()", empty.changedCells(), 0);
        Edge.is("p of an empty stack: position(0)", empty.position(0), 1);
    }

    private static void promise8StoredCodes() {
        Edge.says(8, "Changes of the grid are seen by all later turns of the same tick.");
        // In tick 5 pointer 0 stores "@" in column 8, where pointer 1 is.
        GridMachine later = Due.machine("t~~~p");
        later.feed('@');
        later.feed(8);
        later.feed(0);
        later.tick(5);
        Edge.is("a later turn: status(1)", later.status(1), 1);
        Edge.is("a later turn: position(1)", later.position(1), 8);
        // In tick 5 pointer 1 stores "@" in column 4, where pointer 0 was in this tick.
        GridMachine earlier = Due.machine("t       p~~~");
        earlier.feed('@');
        earlier.feed(4);
        earlier.feed(0);
        earlier.tick(5);
        Edge.is("an earlier turn: cellAt(4, 0)", earlier.cellAt(4, 0), '@');
        Edge.is("an earlier turn: status(0)", earlier.status(0), 0);
        Edge.is("an earlier turn: position(0)", earlier.position(0), 5);
        // The pointer stores in the cell it stands in, and moves on.
        GridMachine own = Due.machine("~~~p");
        own.feed('@');
        own.feed(3);
        own.feed(0);
        own.tick(4);
        Edge.is("the same turn: status(0)", own.status(0), 0);
        Edge.is("the same turn: position(0)", own.position(0), 4);
    }

    private static void promise8OtherCharacters() {
        Edge.says(8, "Any other character, a space included, does nothing.");
        String meaning = "0123456789+-*/%!`:\\$><^v_|[]r#gp.~wt{}@";
        int others = 0;
        for (int code = 32; code <= 126; code++) {
            if (meaning.indexOf(code) >= 0) {
                continue;
            }
            others++;
            GridMachine x = Makings.holding(new int[] {8}, new int[] {9});
            x.feed(5);
            x.poke(x.position(0), 0, ' ');
            GridMachine y = Makings.holding(new int[] {8}, new int[] {9});
            y.feed(5);
            y.poke(y.position(0), 0, code);
            x.tick(1);
            y.tick(1);
            // But for the cell itself, all is as behind a space.
            y.poke(y.position(0) - 1, 0, ' ');
            Edge.same("code " + code, Edge.lookAtState(y), Edge.lookAtState(x));
            isAt("code " + code, y, 5, 0, RIGHT);
            Edge.stack("code " + code, y, 0, 0, 8);
            Edge.stack("code " + code, y, 0, 1, 9);
            Edge.is("code " + code + ": inputSize()", y.inputSize(), 1);
        }
        Edge.is("characters without a meaning", others, 95 - meaning.length());
    }
}
