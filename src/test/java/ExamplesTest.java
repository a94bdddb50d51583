/** The six examples of the document's Description, call by call. */
public final class ExamplesTest {
    private ExamplesTest() {
    }

    public static void main(String[] args) {
        sum();
        ring();
        split();
        longLine();
        fault();
        input();
        Due.end();
    }

    private static void appendAll(String example, GridMachine x, int... characters) {
        for (int i = 0; i < characters.length; i++) {
            Due.is(example + ": append(" + characters[i] + ")", x.append(characters[i]), i + 1);
        }
    }

    private static void sum() {
        GridMachine x = new GridMachine();
        appendAll("example 1", x, 49, 50, 43, 46, 64);
        Due.is("example 1: load()", x.load(), 5);
        Due.is("example 1: ticksToHalt(200)", x.ticksToHalt(200), 5);
        Due.is("example 1: tick(200)", x.tick(200), 5);
        Due.is("example 1: outputAt(0)", x.outputAt(0), 3);
        Due.is("example 1: status(0)", x.status(0), 1);
        Due.is("example 1: tick(1)", x.tick(1), -2);
        Due.is("example 1: position(0)", x.position(0), 4);
    }

    private static void ring() {
        GridMachine x = new GridMachine();
        appendAll("example 2", x, 62, 118, 10, 94, 60);
        Due.is("example 2: load()", x.load(), 4);
        Due.is("example 2: cycleStart(200)", x.cycleStart(200), 1);
        Due.is("example 2: cycleLength(200)", x.cycleLength(200), 4);
        Due.is("example 2: cycleStart(3)", x.cycleStart(3), -9);
        Due.is("example 2: ticksToHalt(200)", x.ticksToHalt(200), -9);
        Due.is("example 2: tick(3)", x.tick(3), 3);
        Due.is("example 2: position(0)", x.position(0), 12);
    }

    private static void split() {
        GridMachine x = new GridMachine();
        appendAll("example 3", x, 51, 116, 46, 64);
        Due.is("example 3: load()", x.load(), 4);
        Due.is("example 3: tick(2)", x.tick(2), 2);
        Due.is("example 3: pointerCount()", x.pointerCount(), 2);
        Due.is("example 3: position(1)", x.position(1), 0);
        Due.is("example 3: direction(1)", x.direction(1), 2);
        Due.is("example 3: tick(1)", x.tick(1), 1);
        Due.is("example 3: outputAt(0)", x.outputAt(0), 3);
        Due.is("example 3: outputTotal()", x.outputTotal(), 1);
    }

    private static void longLine() {
        GridMachine x = new GridMachine();
        appendAll("example 4", x, 49, 50, 51, 52, 53, 54, 55, 56, 57, 48, 49, 50, 51);
        Due.is("example 4: load()", x.load(), -22);
        Due.is("example 4: clearText()", x.clearText(), 13);
    }

    private static void fault() {
        GridMachine x = new GridMachine();
        appendAll("example 5", x, 49, 49, 49, 49, 49, 49, 49, 49, 49, 49, 49, 49);
        Due.is("example 5: load()", x.load(), 12);
        Due.is("example 5: tick(200)", x.tick(200), 17);
        Due.is("example 5: status(0)", x.status(0), 2);
        Due.is("example 5: stackSize(0, 0)", x.stackSize(0, 0), 16);
    }

    private static void input() {
        GridMachine x = new GridMachine();
        appendAll("example 6", x, 126, 46);
        Due.is("example 6: load()", x.load(), 2);
        Due.is("example 6: feed(7)", x.feed(7), 1);
        Due.is("example 6: tick(2)", x.tick(2), 2);
        Due.is("example 6: outputAt(0)", x.outputAt(0), 7);
        Due.is("example 6: inputSize()", x.inputSize(), 0);
        Due.is("example 6: cycleStart(200)", x.cycleStart(200), 0);
    }
}
