import java.util.ArrayList;
import java.util.List;
import java.util.function.Function;
import java.util.function.Supplier;
import java.util.function.ToIntFunction;

/** What the boundary tests share: the promise and the sentence that a test is of, and the calls that change nothing. */
final class Edge {
    static final int MIN = Integer.MIN_VALUE;
    static final int MAX = Integer.MAX_VALUE;

    private static final int LOOKED_UNDOS = 6;
    private static final int[] LATER_TICKS = {1, 2, 7, 200};

    private static String label = "";
    private static int askedBefore = -1;

    private Edge() {
    }

    /** Begins the test of a sentence; what is printed from here on names the promise and the sentence. */
    static void says(int promise, String sentence) {
        end();
        askedBefore = Due.askedSoFar();
        label = "promise " + promise + ", \"" + sentence + "\": ";
        Sentences.cite(promise, sentence);
    }

    /** Ends the test of a sentence, which must have asked something. */
    static void end() {
        Due.isTrue(label + "has a test of its own", Due.askedSoFar() > askedBefore);
    }

    static void is(String what, long got, long want) {
        Due.is(label + what, got, want);
    }

    static void same(String what, String got, String want) {
        Due.same(label + what, got, want);
    }

    static void stack(String what, GridMachine x, int pointer, int stack, int... values) {
        Due.stack(label + what, x, pointer, stack, values);
    }

    static void output(String what, GridMachine x, int... values) {
        Due.output(label + what, x, values);
    }

    /** All that is shown of the state, but for the number of saved states. */
    static String lookAtState(GridMachine x) {
        return Due.look(x).replaceAll(" undo .*", "");
    }

    /**
     * A call that is refused, or only reads, gives its answer and changes nothing that later calls show: of two
     * machines of the same making, one with that call and one without it, all later calls answer the same.
     */
    static void changesNothing(String what, Supplier<GridMachine> making, ToIntFunction<GridMachine> call, int due) {
        is(what, call.applyAsInt(making.get()), due);
        List<Function<GridMachine, String>> probes = probes();
        for (int i = 0; i < probes.size(); i++) {
            GridMachine untouched = making.get();
            GridMachine called = making.get();
            call.applyAsInt(called);
            Function<GridMachine, String> probe = probes.get(i);
            same(what + " changes nothing (probe " + i + ")", probe.apply(called), probe.apply(untouched));
        }
    }

    /** The same in each of the makings that differ most: a new machine, a busy one, a full one and a halted one. */
    static void changesNothingAnywhere(String what, ToIntFunction<GridMachine> call, int due) {
        changesNothing(what + " of a new machine", GridMachine::new, call, due);
        changesNothing(what + " of a busy machine", Makings::busy, call, due);
        changesNothing(what + " of a full machine", Makings::full, call, due);
        changesNothing(what + " of a halted machine", Makings::halted, call, due);
    }

    /** Each probe uses its machine up; with its making none comes to more than 512 calls. */
    private static List<Function<GridMachine, String>> probes() {
        List<Function<GridMachine, String>> probes = new ArrayList<>();
        probes.add(Due::look);
        probes.add(x -> "clearText() " + x.clearText());
        probes.add(x -> "load() " + x.load() + Due.look(x));
        probes.add(x -> "rewind() " + x.rewind() + Due.look(x));
        probes.add(Edge::lookAtBreakpoints);
        probes.add(Edge::lookAtQueue);
        probes.add(x -> "undo() " + x.undo() + lookAtQueue(x));
        for (int slot = 0; slot < 2; slot++) {
            int chosen = slot;
            probes.add(x -> "restore() " + x.restore(chosen) + Due.look(x));
            probes.add(x -> "restore() " + x.restore(chosen) + lookAtQueue(x));
        }
        for (int undos = 1; undos <= LOOKED_UNDOS; undos++) {
            int times = undos;
            probes.add(x -> lookBehindUndos(x, times));
        }
        for (int ticks : LATER_TICKS) {
            probes.add(x -> "tick() " + x.tick(ticks) + Due.look(x));
            probes.add(x -> "run() " + x.run(ticks) + Due.look(x));
        }
        probes.add(x -> x.ticksToHalt(200) + " " + x.cycleStart(200) + " " + x.cycleLength(200));
        return probes;
    }

    private static String lookBehindUndos(GridMachine x, int times) {
        StringBuilder seen = new StringBuilder("undo()");
        for (int i = 0; i < times; i++) {
            seen.append(' ').append(x.undo());
        }
        return seen.append(Due.look(x)).toString();
    }

    private static String lookAtBreakpoints(GridMachine x) {
        StringBuilder seen = new StringBuilder("setBreakpoint()");
        for (int cell = 0; cell < 72; cell++) {
            seen.append(' ').append(x.setBreakpoint(cell % 12, cell / 12, 0));
        }
        return seen.toString();
    }

    /** A new run takes all values of the queue and outputs them. */
    static String lookAtQueue(GridMachine x) {
        x.rewind();
        for (int column = 0; column < 12; column++) {
            x.poke(column, 0, column % 2 == 0 ? '~' : '.');
        }
        int queued = x.inputSize();
        if (queued > 0) {
            x.tick(2 * queued);
        }
        StringBuilder seen = new StringBuilder("queue");
        for (int i = 0; i < x.outputSize(); i++) {
            seen.append(' ').append(x.outputAt(i));
        }
        return seen.toString();
    }
}
