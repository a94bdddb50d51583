/** The instructions, the turns of a tick, the split, the stacks and the faults, as the Description tells them. */
public final class InstructionsTest {
    private static final int MIN = Integer.MIN_VALUE;
    private static final int MAX = Integer.MAX_VALUE;
    /** The ticks in which the program of full() pushes sixteen values and comes to column 1 of row 2. */
    private static final int FILLING = 25;

    private InstructionsTest() {
    }

    public static void main(String[] args) {
        digits();
        arithmetic();
        arithmeticOfAnyIntegers();
        copyingAndSwapping();
        directions();
        turnsAndSkips();
        wrapping();
        cells();
        outputAndInput();
        sleeping();
        opening();
        closing();
        faults();
        faultsWithInput();
        splits();
        orderOfSplits();
        turnOrder();
        charactersWithoutMeaning();
        Due.end();
    }

    private static void digits() {
        GridMachine x = Due.ticked("0123456789", 10);
        Due.stack("digits", x, 0, 0, 0, 1, 2, 3, 4, 5, 6, 7, 8, 9);
        Due.is("digits: direction(0)", x.direction(0), 0);
        Due.is("digits: position(0)", x.position(0), 10);
    }

    private static void arithmetic() {
        Due.stack("74+", Due.ticked("74+", 3), 0, 0, 11);
        Due.stack("47-", Due.ticked("47-", 3), 0, 0, -3);
        Due.stack("74*", Due.ticked("74*", 3), 0, 0, 28);
        Due.stack("74/", Due.ticked("74/", 3), 0, 0, 1);
        Due.stack("70/", Due.ticked("70/", 3), 0, 0, 0);
        Due.stack("74%", Due.ticked("74%", 3), 0, 0, 3);
        Due.stack("70%", Due.ticked("70%", 3), 0, 0, 0);
        Due.stack("74`", Due.ticked("74`", 3), 0, 0, 1);
        Due.stack("47`", Due.ticked("47`", 3), 0, 0, 0);
        Due.stack("44`", Due.ticked("44`", 3), 0, 0, 0);
        Due.stack("5!", Due.ticked("5!", 2), 0, 0, 0);
        Due.stack("0!", Due.ticked("0!", 2), 0, 0, 1);
        Due.stack("! of an empty stack", Due.ticked("!", 1), 0, 0, 1);
        Due.stack("+ of an empty stack", Due.ticked("+", 1), 0, 0, 0);
        Due.stack("7-", Due.ticked("7-", 2), 0, 0, -7);
        Due.stack("12$", Due.ticked("12$", 3), 0, 0, 1);
        Due.stack("$ of an empty stack", Due.ticked("$", 1), 0, 0);
    }

    private static GridMachine afterInput(String program, int first, int second) {
        GridMachine x = Due.machine(program);
        x.feed(first);
        x.feed(second);
        x.tick(3);
        return x;
    }

    private static void arithmeticOfAnyIntegers() {
        Due.stack("MAX + 1", afterInput("~~+", MAX, 1), 0, 0, MIN);
        Due.stack("MIN - 1", afterInput("~~-", MIN, 1), 0, 0, MAX);
        Due.stack("MAX * MAX", afterInput("~~*", MAX, MAX), 0, 0, 1);
        Due.stack("MIN * -1", afterInput("~~*", MIN, -1), 0, 0, MIN);
        Due.stack("MIN / -1", afterInput("~~/", MIN, -1), 0, 0, MIN);
        Due.stack("MIN % -1", afterInput("~~%", MIN, -1), 0, 0, 0);
        Due.stack("MIN / 0", afterInput("~~/", MIN, 0), 0, 0, 0);
        Due.stack("MIN % 0", afterInput("~~%", MIN, 0), 0, 0, 0);
        Due.stack("-7 / 2", afterInput("~~/", -7, 2), 0, 0, -3);
        Due.stack("-7 % 2", afterInput("~~%", -7, 2), 0, 0, -1);
        Due.stack("7 / -2", afterInput("~~/", 7, -2), 0, 0, -3);
        Due.stack("7 % -2", afterInput("~~%", 7, -2), 0, 0, 1);
        Due.stack("MAX ` MIN", afterInput("~~`", MAX, MIN), 0, 0, 1);
        Due.stack("MIN ` MAX", afterInput("~~`", MIN, MAX), 0, 0, 0);
    }

    private static void copyingAndSwapping() {
        Due.stack("5:", Due.ticked("5:", 2), 0, 0, 5, 5);
        Due.stack(": of an empty stack", Due.ticked(":", 1), 0, 0, 0, 0);
        Due.stack("12\\", Due.ticked("12\\", 3), 0, 0, 2, 1);
        Due.stack("1\\", Due.ticked("1\\", 2), 0, 0, 1, 0);
        Due.stack("\\ of an empty stack", Due.ticked("\\", 1), 0, 0, 0, 0);
    }

    private static void heading(String program, int ticks, int direction, int position) {
        GridMachine x = Due.ticked(program, ticks);
        Due.is(program + ": direction(0)", x.direction(0), direction);
        Due.is(program + ": position(0)", x.position(0), position);
    }

    private static void directions() {
        heading(">", 1, 0, 1);
        heading("v", 1, 1, 12);
        heading("<", 1, 2, 11);
        heading("^", 1, 3, 60);
        heading("_", 1, 0, 1);
        heading("1_", 2, 2, 0);
        heading("0_", 2, 0, 2);
        heading("|", 1, 1, 12);
        heading("1|", 2, 3, 61);
        heading("0|", 2, 1, 13);
        Due.stack("12_", Due.ticked("12_", 3), 0, 0, 1);
        Due.stack("12|", Due.ticked("12|", 3), 0, 0, 1);
        GridMachine negative = Due.machine("~_");
        negative.feed(-1);
        negative.tick(2);
        Due.is("_ of -1: direction(0)", negative.direction(0), 2);
    }

    private static void turnsAndSkips() {
        heading("[", 1, 3, 60);
        heading("]", 1, 1, 12);
        heading("r", 1, 2, 11);
        heading("v\n[", 2, 0, 13);
        heading("v\n]", 2, 2, 23);
        heading("v\nr", 2, 3, 0);
        heading("<          [", 2, 1, 23);
        heading("<          ]", 2, 3, 71);
        heading("<          r", 2, 0, 0);
        heading("^\n\n\n\n\n[", 2, 2, 71);
        heading("^\n\n\n\n\n]", 2, 0, 61);
        heading("^\n\n\n\n\nr", 2, 1, 0);
        heading("#", 1, 0, 2);
        heading("v\n#", 2, 1, 36);
        heading("<          #", 2, 2, 9);
        heading("^\n\n\n\n\n#", 2, 3, 36);
        heading("           #", 12, 0, 1);
        Due.stack("#12", Due.ticked("#12", 2), 0, 0, 2);
    }

    private static void wrapping() {
        heading(">", 12, 0, 0);
        heading("v", 6, 1, 0);
        heading("<", 12, 2, 0);
        heading("^", 6, 3, 0);
    }

    private static GridMachine fed(String program, int ticks, int... values) {
        GridMachine x = Due.machine(program);
        for (int i = 0; i < values.length; i++) {
            Due.is("feed of " + program, x.feed(values[i]), i + 1);
        }
        Due.is("tick of " + program, x.tick(ticks), ticks);
        return x;
    }

    private static void cells() {
        Due.stack("20g", Due.ticked("20g", 3), 0, 0, 'g');
        Due.stack("column 2, row 1", Due.ticked("21g\nABCD", 3), 0, 0, 'C');
        Due.stack("g of an empty stack", Due.ticked("g", 1), 0, 0, 'g');
        Due.stack("g of -1, -1", fed("~~g\n\n\n\n\n           Z", 3, -1, -1), 0, 0, 'Z');
        Due.stack("g of 14, 7", fed("~~g\nABCD", 3, 14, 7), 0, 0, 'C');
        Due.stack("g of MIN, MIN", fed("~~g\n\n\n\n    E", 3, MIN, MIN), 0, 0, 'E');
        Due.stack("g of MAX, MAX", fed("~~g\n       F", 3, MAX, MAX), 0, 0, 'F');
        GridMachine stored = fed("~~~p", 4, 65, 3, 2);
        Due.is("p: cellAt(3, 2)", stored.cellAt(3, 2), 65);
        Due.is("p: changedCells()", stored.changedCells(), 1);
        Due.stack("p", stored, 0, 0);
        GridMachine wrapped = fed("~~~p", 4, 66, -1, -6);
        Due.is("p of -1, -6: cellAt(11, 0)", wrapped.cellAt(11, 0), 66);
        Due.is("p of 31: cellAt(3, 2)", fed("~~~p", 4, 31, 3, 2).changedCells(), 0);
        Due.is("p of 127: cellAt(3, 2)", fed("~~~p", 4, 127, 3, 2).changedCells(), 0);
        Due.is("p of 32: cellAt(1, 0)", fed("~~~p", 4, 32, 1, 0).cellAt(1, 0), 32);
        Due.is("p of 126: cellAt(3, 2)", fed("~~~p", 4, 126, 3, 2).cellAt(3, 2), 126);
        Due.stack("p of 31 pops three", fed("~~~~p", 5, 9, 31, 3, 2), 0, 0, 9);
        Due.is("p of MIN: changedCells()", fed("~~~p", 4, MIN, 3, 2).changedCells(), 0);
        Due.is("p of an empty stack: changedCells()", Due.ticked("p", 1).changedCells(), 0);
    }

    private static void outputAndInput() {
        Due.output("12..", Due.ticked("12..", 4), 2, 1);
        Due.output(". of an empty stack", Due.ticked(".", 1), 0);
        GridMachine x = fed("~.~.~", 5, MIN, MAX);
        Due.output("~.~.~", x, MIN, MAX);
        Due.is("~ without input: direction(0)", x.direction(0), 2);
        Due.is("~ without input: position(0)", x.position(0), 3);
        Due.stack("~ without input", x, 0, 0);
        GridMachine first = fed("~", 1, 5, 6, 7);
        Due.stack("the first value of the queue", first, 0, 0, 5);
        Due.is("~: inputSize()", first.inputSize(), 2);
    }

    private static void sleeping() {
        GridMachine x = Due.ticked("3w5", 2);
        Due.is("3w: sleep(0)", x.sleep(0), 3);
        Due.is("3w: position(0)", x.position(0), 2);
        x.tick(1);
        Due.is("3w: sleep(0) a tick later", x.sleep(0), 2);
        Due.is("3w: position(0) a tick later", x.position(0), 2);
        x.tick(2);
        Due.is("3w: sleep(0) three ticks later", x.sleep(0), 0);
        Due.stack("3w: nothing pushed in sleep", x, 0, 0);
        x.tick(1);
        Due.stack("3w: awake", x, 0, 0, 5);
        Due.is("w of 10", fed("~w", 2, 10).sleep(0), 9);
        Due.is("w of 9", fed("~w", 2, 9).sleep(0), 9);
        Due.is("w of MAX", fed("~w", 2, MAX).sleep(0), 9);
        Due.is("w of -1", fed("~w", 2, -1).sleep(0), 0);
        Due.is("w of MIN", fed("~w", 2, MIN).sleep(0), 0);
        Due.is("w of an empty stack", Due.ticked("w", 1).sleep(0), 0);
    }

    private static void opening() {
        GridMachine x = Due.ticked("12342{", 6);
        Due.is("12342{: stackCount(0)", x.stackCount(0), 2);
        Due.stack("12342{", x, 0, 0, 1, 2);
        Due.stack("12342{", x, 0, 1, 3, 4);
        GridMachine all = Due.ticked("1239{", 5);
        Due.stack("1239{", all, 0, 0);
        Due.stack("1239{", all, 0, 1, 1, 2, 3);
        GridMachine exact = Due.ticked("1233{", 5);
        Due.stack("1233{", exact, 0, 0);
        Due.stack("1233{", exact, 0, 1, 1, 2, 3);
        GridMachine none = fed("12~{", 4, MIN);
        Due.stack("{ of MIN", none, 0, 0, 1, 2);
        Due.stack("{ of MIN", none, 0, 1);
        GridMachine most = fed("12~{", 4, MAX);
        Due.stack("{ of MAX", most, 0, 0);
        Due.stack("{ of MAX", most, 0, 1, 1, 2);
        GridMachine three = Due.ticked("121{3{", 6);
        Due.is("121{3{: stackCount(0)", three.stackCount(0), 3);
        Due.stack("121{3{", three, 0, 0, 1);
        Due.stack("121{3{", three, 0, 1);
        Due.stack("121{3{", three, 0, 2, 2);
        GridMachine fourth = Due.ticked("{{561{", 6);
        Due.is("a fourth stack: stackCount(0)", fourth.stackCount(0), 3);
        Due.stack("a fourth stack", fourth, 0, 2, 5, 6);
        Due.is("a fourth stack: direction(0)", fourth.direction(0), 0);
        GridMachine popped = Due.ticked("7{$+", 4);
        Due.stack("an empty stack gives 0 though the one before has values", popped, 0, 1, 0);
    }

    private static void closing() {
        GridMachine alone = Due.ticked("5}", 2);
        Due.is("} of one stack: direction(0)", alone.direction(0), 2);
        Due.is("} of one stack: position(0)", alone.position(0), 0);
        Due.stack("} of one stack", alone, 0, 0, 5);
        GridMachine x = Due.ticked("90{45672}", 9);
        Due.is("90{45672}: stackCount(0)", x.stackCount(0), 1);
        Due.stack("90{45672}", x, 0, 0, 9, 6, 7);
        Due.is("90{45672}: direction(0)", x.direction(0), 0);
        GridMachine all = Due.ticked("90{459}", 7);
        Due.stack("90{459}", all, 0, 0, 9, 4, 5);
        GridMachine none = fed("90{45~}", 7, -3);
        Due.stack("} of -3", none, 0, 0, 9);
        GridMachine most = fed("90{45~}", 7, MAX);
        Due.stack("} of MAX", most, 0, 0, 9, 4, 5);
        GridMachine pushed = Due.ticked("90{45671}83{", 12);
        Due.stack("90{45671}83{", pushed, 0, 0);
        Due.stack("90{45671}83{", pushed, 0, 1, 9, 7, 8);
        GridMachine empty = Due.ticked("90{}", 4);
        Due.stack("} of an empty stack", empty, 0, 0, 9);
        GridMachine middle = Due.ticked("10{20{34562}", 12);
        Due.is("10{20{34562}: stackCount(0)", middle.stackCount(0), 2);
        Due.stack("10{20{34562}", middle, 0, 0, 1);
        Due.stack("10{20{34562}", middle, 0, 1, 2, 5, 6);
    }

    /** Loads a program that pushes sixteen values and then executes row 2 from column 1 on, and lets it come there. */
    private static GridMachine full(String row) {
        return fed("11111111111v\nv11111     <\n>" + row, FILLING);
    }

    private static void faulted(String what, GridMachine x, int ticks, int position) {
        Due.is(what + ": tick(200)", x.tick(200), ticks);
        Due.is(what + ": status(0)", x.status(0), 2);
        Due.is(what + ": position(0)", x.position(0), position);
        Due.is(what + ": the machine is halted", x.tick(1), -2);
    }

    private static void faults() {
        GridMachine x = full("5");
        Due.is("a sixteenth push: status(0)", x.status(0), 0);
        Due.is("a sixteenth push: stackSize(0, 0)", x.stackSize(0, 0), 16);
        faulted("a seventeenth push", x, 1, 25);
        Due.is("a seventeenth push: stackSize(0, 0)", x.stackSize(0, 0), 16);
        Due.is("a seventeenth push: valueAt(0, 0, 15)", x.valueAt(0, 0, 15), 1);
        GridMachine copied = full("$5:");
        faulted(": of a full pointer", copied, 3, 27);
        Due.is(": of a full pointer: stackSize(0, 0)", copied.stackSize(0, 0), 16);
        Due.is(": of a full pointer: valueAt(0, 0, 15)", copied.valueAt(0, 0, 15), 5);
        GridMachine swapped = full("$5\\!+@");
        Due.is("$5\\!+@ of a full pointer: tick(200)", swapped.tick(200), 6);
        Due.is("$5\\!+@ of a full pointer: status(0)", swapped.status(0), 1);
        Due.is("$5\\!+@ of a full pointer: valueAt(0, 0, 14)", swapped.valueAt(0, 0, 14), 5);
        // The lower stack keeps fifteen values, so that the missing value under the 4 has no place.
        GridMachine lower = full("$0{4\\");
        faulted("\\ of one value of a full pointer", lower, 5, 29);
        Due.is("\\ of one value of a full pointer: stackSize(0, 0)", lower.stackSize(0, 0), 15);
        Due.stack("\\ of one value of a full pointer", lower, 0, 1, 4);
        GridMachine counted = full("$0{45");
        faulted("the values of all stacks together", counted, 5, 29);
    }

    private static void faultsWithInput() {
        GridMachine x = full("~");
        x.feed(7);
        x.feed(8);
        faulted("~ of a full pointer", x, 1, 25);
        Due.is("~ of a full pointer: inputSize()", x.inputSize(), 1);
        GridMachine y = full("~");
        Due.is("~ without input: tick(1)", y.tick(1), 1);
        Due.is("~ without input: status(0)", y.status(0), 0);
        Due.is("~ without input: direction(0)", y.direction(0), 2);
    }

    private static void split(String program, int ticks, int direction, int position) {
        GridMachine x = Due.ticked(program, ticks);
        Due.is(program + ": pointerCount()", x.pointerCount(), 2);
        Due.is(program + ": direction(1)", x.direction(1), direction);
        Due.is(program + ": position(1)", x.position(1), position);
        Due.is(program + ": status(1)", x.status(1), 0);
        Due.is(program + ": sleep(1)", x.sleep(1), 0);
    }

    private static void splits() {
        split("t", 1, 2, 11);
        split("v\nt", 2, 3, 0);
        split("<          t", 2, 0, 0);
        split("^\n\n\n\n\nt", 2, 1, 0);
        GridMachine x = Due.ticked("120{3t", 6);
        Due.is("120{3t: stackCount(1)", x.stackCount(1), 2);
        Due.stack("120{3t", x, 1, 0, 1, 2);
        Due.stack("120{3t", x, 1, 1, 3);
        Due.is("120{3t: position(0)", x.position(0), 6);
        Due.is("120{3t: direction(0)", x.direction(0), 0);
        Due.is("the copy's next turn", x.tick(1), 1);
        Due.stack("the copy pushes alone", x, 1, 1, 3, 3);
        Due.stack("the copy pushes alone", x, 0, 1, 3);
    }

    private static void executionOrder(GridMachine x, int... identifiers) {
        Due.is("pointerCount()", x.pointerCount(), identifiers.length);
        for (int place = 0; place < identifiers.length; place++) {
            Due.is("pointerAt(" + place + ")", x.pointerAt(place), identifiers[place]);
        }
    }

    private static void orderOfSplits() {
        GridMachine x = Due.ticked("tt", 1);
        executionOrder(x, 0, 1);
        x.tick(1);
        executionOrder(x, 0, 2, 1);
        Due.is("tt: position(2)", x.position(2), 0);
        x.tick(1);
        executionOrder(x, 0, 2, 3, 1);
        Due.is("tt: position(3)", x.position(3), 1);
        Due.is("tt: direction(3)", x.direction(3), 0);
        x.tick(1);
        executionOrder(x, 0, 2, 3, 1);
        Due.is("a fifth pointer: position(3)", x.position(3), 2);
        GridMachine stopped = Due.ticked("tttt@", 5);
        Due.is("tttt@: pointerCount()", stopped.pointerCount(), 4);
        Due.is("tttt@: status(0)", stopped.status(0), 1);
        Due.is("tttt@: position(0)", stopped.position(0), 4);
        stopped.tick(200);
        Due.is("a stopped pointer keeps its place", stopped.pointerAt(0), 0);
        Due.is("stopped pointers count", stopped.pointerCount(), 4);
    }

    private static void turnOrder() {
        GridMachine later = Due.machine("t~~~p");
        later.feed('@');
        later.feed(8);
        later.feed(0);
        Due.is("a later turn sees the store: tick(5)", later.tick(5), 5);
        Due.is("a later turn sees the store: status(1)", later.status(1), 1);
        Due.is("a later turn sees the store: position(1)", later.position(1), 8);
        GridMachine earlier = Due.machine("t       p~~~");
        earlier.feed('@');
        earlier.feed(4);
        earlier.feed(0);
        Due.is("an earlier turn does not: tick(5)", earlier.tick(5), 5);
        Due.is("an earlier turn does not: cellAt(4, 0)", earlier.cellAt(4, 0), '@');
        Due.is("an earlier turn does not: status(0)", earlier.status(0), 0);
        Due.is("an earlier turn does not: position(0)", earlier.position(0), 5);
        GridMachine stop = Due.ticked("1@5", 2);
        Due.is("@: status(0)", stop.status(0), 1);
        Due.is("@: position(0)", stop.position(0), 1);
        Due.stack("@", stop, 0, 0, 1);
    }

    private static void charactersWithoutMeaning() {
        String meaning = "0123456789+-*/%!`:\\$><^v_|[]r#gp.~wt{}@";
        for (int code = 32; code <= 126; code++) {
            if (meaning.indexOf(code) >= 0) {
                continue;
            }
            GridMachine y = Due.machine("12");
            y.feed(5);
            Due.is("poke of " + (char) code, y.poke(2, 0, code), 32);
            Due.is("tick(3) over " + (char) code, y.tick(3), 3);
            Due.is((char) code + ": position(0)", y.position(0), 3);
            Due.is((char) code + ": direction(0)", y.direction(0), 0);
            Due.is((char) code + ": status(0)", y.status(0), 0);
            Due.is((char) code + ": sleep(0)", y.sleep(0), 0);
            Due.is((char) code + ": stackCount(0)", y.stackCount(0), 1);
            Due.is((char) code + ": pointerCount()", y.pointerCount(), 1);
            Due.is((char) code + ": outputTotal()", y.outputTotal(), 0);
            Due.is((char) code + ": inputSize()", y.inputSize(), 1);
            Due.is((char) code + ": cellAt(2, 0)", y.cellAt(2, 0), code);
            Due.stack("" + (char) code, y, 0, 0, 1, 2);
        }
    }
}
