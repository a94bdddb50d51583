import java.util.ArrayDeque;
import java.util.ArrayList;
import java.util.Deque;
import java.util.HashSet;
import java.util.List;
import java.util.Random;
import java.util.Set;

/**
 * Compares long runs of random calls with a model that is written from the document alone and in another way:
 * states are texts and lists that are copied whole, and the configurations are all kept and compared in pairs.
 */
public final class ModelTest {
    private static final int RUNS = 30000;
    /** With the longest text behind it, and the look at all there is, a run comes to at most 512 calls. */
    private static final int LONGEST_RUN = 110;
    private static final String INSTRUCTIONS = "0123456789+-*/%!`:\\$><^v_|[]r#gp.~wt{}@";
    /** Pieces of programs that do what texts of random instructions seldom do: moving values, storing, splitting. */
    private static final String[][] THEMES = {
        {"0{", "1{", "2{", "9{", "12", "345", "1}", "2}", "0}", "9}", ":", "\\", "67", "$", "+", "."},
        {"66*", "78*", "99*", "34p", "05p", "00p", "20p", "91p", "12g", "40g", "~~~p", "~", "1+", "g", ".", "v"},
        {"t", "1t", "3w", "9w", "@", "<", ">", "^", "v", "r", "[", "]", "#", ".", "5", "  ", "0_", "1|"},
        {"~", "~.", "~t", "1{~", "~}", "~:", "~*", "~/", "~%", "~`", "~-", "~w", "~_", "~|", "~~g"},
        {"1+:.", "1+", "01g1+01p", "t", "0{", "1}", "9w", " ", "v", ">", "30g1+30p"}};

    private ModelTest() {
    }

    public static void main(String[] args) {
        for (int seed = 0; seed < RUNS && Due.wrongSoFar() < 20; seed++) {
            new Run(seed).perform();
        }
        Due.end();
    }

    /** One object, one model, and the random calls to both. */
    private static final class Run {
        private final int seed;
        private final Random random;
        private final GridMachine machine = new GridMachine();
        private final Model model = new Model();
        private final String[] pieces;

        Run(int seed) {
            this.seed = seed;
            random = new Random(seed);
            pieces = piecesOf(random);
        }

        private static String[] piecesOf(Random random) {
            if (random.nextInt(4) != 0) {
                return THEMES[random.nextInt(THEMES.length)];
            }
            String[] some = new String[3 + random.nextInt(12)];
            for (int i = 0; i < some.length; i++) {
                int instruction = random.nextInt(INSTRUCTIONS.length());
                some[i] = INSTRUCTIONS.substring(instruction, instruction + 1);
            }
            return some;
        }

        void perform() {
            int length = 1 + random.nextInt(LONGEST_RUN);
            int calls = random.nextInt(8) == 0 ? 0 : typeProgram();
            while (calls < length) {
                calls += random.nextInt(16) == 0 ? typeProgram() : oneCall();
                if (Due.wrongSoFar() > 0) {
                    return;
                }
            }
            Due.same("seed " + seed, Due.look(machine), model.look());
        }

        /** Makes a text of some rows, most of them full, and now and then an invalid one. */
        private String text() {
            StringBuilder text = new StringBuilder();
            int rows = 1 + random.nextInt(random.nextInt(20) == 0 ? 7 : 3);
            for (int row = 0; row < rows; row++) {
                StringBuilder line = new StringBuilder();
                while (line.length() < 12) {
                    line.append(pieces[random.nextInt(pieces.length)]);
                }
                line.setLength(random.nextInt(4) == 0 ? random.nextInt(13) : 12);
                text.append(line).append(random.nextInt(60) == 0 ? "!" : "").append('\n');
            }
            if (random.nextInt(20) == 0) {
                text.insert(random.nextInt(text.length()), (char) random.nextInt(256));
            }
            return text.toString();
        }

        private int typeProgram() {
            String text = text();
            for (int i = 0; i < text.length(); i++) {
                int character = random.nextInt(2000) == 0 ? anyInteger() : text.charAt(i);
                check("append(" + character + ")", machine.append(character), model.append(character));
            }
            check("load()", machine.load(), model.load());
            if (random.nextInt(4) != 0) {
                check("clearText()", machine.clearText(), model.clearText());
            }
            return text.length() + 2;
        }

        private void check(String call, int got, int want) {
            Due.is("seed " + seed + ": " + call, got, want);
        }

        private int anyInteger() {
            switch (random.nextInt(6)) {
                case 0:
                    return random.nextInt();
                case 1:
                    return random.nextBoolean() ? Integer.MIN_VALUE : Integer.MAX_VALUE;
                case 2:
                    return 32 + random.nextInt(95);
                default:
                    return random.nextInt(16) - 4;
            }
        }

        private int code() {
            return random.nextInt(4) == 0 ? 25 + random.nextInt(110) : pieces[random.nextInt(pieces.length)].charAt(0);
        }

        private int limit() {
            int[] limits = {0, 201, -5, 1, 2, 3, 5, 8, 13, 30, 60, 100, 199, 200};
            return limits[random.nextInt(limits.length)];
        }

        private int column() {
            return random.nextInt(13) - (random.nextInt(20) == 0 ? 1 : 0);
        }

        private int row() {
            return random.nextInt(7) - (random.nextInt(20) == 0 ? 1 : 0);
        }

        private int oneCall() {
            int x = column();
            int y = row();
            int limit = limit();
            int value = anyInteger();
            switch (random.nextInt(14)) {
                case 0:
                    check("rewind()", machine.rewind(), model.rewind());
                    break;
                case 1:
                case 2:
                    check("feed(" + value + ")", machine.feed(value), model.feed(value));
                    break;
                case 3:
                    int code = code();
                    check("poke(" + x + ", " + y + ", " + code + ")", machine.poke(x, y, code), model.poke(x, y, code));
                    break;
                case 4:
                case 5:
                    check("tick(" + limit + ")", machine.tick(limit), model.tick(limit, false));
                    break;
                case 6:
                    check("run(" + limit + ")", machine.run(limit), model.tick(limit, true));
                    break;
                case 7:
                    int on = random.nextInt(3);
                    check("setBreakpoint(" + x + ", " + y + ", " + on + ")",
                            machine.setBreakpoint(x, y, on), model.setBreakpoint(x, y, on));
                    break;
                case 8:
                    check("undo()", machine.undo(), model.undo());
                    break;
                default:
                    return otherCall(limit);
            }
            return 1;
        }

        private int query() {
            int id = anyPlace();
            int stack = anyPlace();
            int index = anyPlace();
            check("pointerAt(" + id + ")", machine.pointerAt(id), model.pointerAt(id));
            check("position(" + id + ")", machine.position(id), model.of(id, 0));
            check("direction(" + id + ")", machine.direction(id), model.of(id, 1));
            check("status(" + id + ")", machine.status(id), model.of(id, 2));
            check("sleep(" + id + ")", machine.sleep(id), model.of(id, 3));
            check("stackCount(" + id + ")", machine.stackCount(id), model.of(id, 4));
            check("stackSize(" + id + ", " + stack + ")", machine.stackSize(id, stack), model.stackSize(id, stack));
            check("valueAt(" + id + ", " + stack + ", " + index + ")",
                    machine.valueAt(id, stack, index), model.valueAt(id, stack, index));
            check("outputAt(" + index + ")", machine.outputAt(index), model.outputAt(index));
            check("cellAt(" + stack + ", " + index + ")", machine.cellAt(stack, index), model.cellAt(stack, index));
            return 10;
        }

        private int anyPlace() {
            return random.nextInt(8) == 0 ? anyInteger() : random.nextInt(5) - random.nextInt(2);
        }

        private int otherCall(int limit) {
            int slot = random.nextInt(4) == 0 ? random.nextInt(5) - 2 : random.nextInt(2);
            switch (random.nextInt(7)) {
                case 0:
                    check("ticksToHalt(" + limit + ")", machine.ticksToHalt(limit), model.ticksToHalt(limit));
                    break;
                case 1:
                    check("cycleStart(" + limit + ")", machine.cycleStart(limit), model.cycle(limit, true));
                    break;
                case 2:
                    check("cycleLength(" + limit + ")", machine.cycleLength(limit), model.cycle(limit, false));
                    break;
                case 3:
                    check("save(" + slot + ")", machine.save(slot), model.save(slot));
                    break;
                case 4:
                    check("restore(" + slot + ")", machine.restore(slot), model.restore(slot));
                    break;
                case 5:
                    return query();
                default:
                    check("undo()", machine.undo(), model.undo());
                    break;
            }
            return 1;
        }
    }

    /** A pointer of the model. */
    private static final class Walker {
        int id;
        int x;
        int y;
        int dx = 1;
        int dy;
        int sleep;
        int status;
        List<List<Integer>> stacks = new ArrayList<>();

        Walker copy() {
            Walker twin = new Walker();
            twin.id = id;
            twin.x = x;
            twin.y = y;
            twin.dx = dx;
            twin.dy = dy;
            twin.sleep = sleep;
            twin.status = status;
            for (List<Integer> stack : stacks) {
                twin.stacks.add(new ArrayList<>(stack));
            }
            return twin;
        }

        int heading() {
            return dx == 1 ? 0 : dy == 1 ? 1 : dx == -1 ? 2 : 3;
        }

        void go(int newDx, int newDy) {
            dx = newDx;
            dy = newDy;
        }

        void move() {
            x = Math.floorMod(x + dx, 12);
            y = Math.floorMod(y + dy, 6);
        }

        List<Integer> current() {
            return stacks.get(stacks.size() - 1);
        }

        int pop() {
            return current().isEmpty() ? 0 : current().remove(current().size() - 1);
        }

        void push(int value) {
            int held = 0;
            for (List<Integer> stack : stacks) {
                held += stack.size();
            }
            if (held == 16) {
                throw new Fault();
            }
            current().add(value);
        }

        String show() {
            return " pointer " + id + " at " + (12 * y + x) + " heading " + heading() + " status " + status + " sleep "
                    + sleep + showStacks();
        }

        private String showStacks() {
            StringBuilder seen = new StringBuilder();
            for (List<Integer> stack : stacks) {
                seen.append(" [");
                for (int value : stack) {
                    seen.append(' ').append(value);
                }
                seen.append(" ]");
            }
            return seen.toString();
        }
    }

    /** Ends an instruction whose push finds no place. */
    private static final class Fault extends RuntimeException {
        private static final long serialVersionUID = 1L;
    }

    /** A state of the model. */
    private static final class World {
        char[] program = " ".repeat(72).toCharArray();
        char[] grid = program.clone();
        List<Walker> order = new ArrayList<>();
        List<Integer> input = new ArrayList<>();
        List<Integer> output = new ArrayList<>();
        int ticks;

        World() {
            begin();
        }

        void begin() {
            grid = program.clone();
            order.clear();
            Walker first = new Walker();
            first.stacks.add(new ArrayList<>());
            order.add(first);
            output.clear();
            ticks = 0;
        }

        World copy() {
            World twin = new World();
            twin.program = program.clone();
            twin.grid = grid.clone();
            twin.order.clear();
            for (Walker walker : order) {
                twin.order.add(walker.copy());
            }
            twin.input = new ArrayList<>(input);
            twin.output = new ArrayList<>(output);
            twin.ticks = ticks;
            return twin;
        }

        boolean halted() {
            return order.stream().noneMatch(walker -> walker.status == 0);
        }

        String configuration() {
            StringBuilder seen = new StringBuilder(new String(grid)).append(input);
            for (Walker walker : order) {
                seen.append(walker.show());
            }
            return seen.toString();
        }

        void tick() {
            for (Walker walker : new ArrayList<>(order)) {
                turn(walker);
            }
            ticks++;
        }

        private void turn(Walker walker) {
            if (walker.status != 0) {
                return;
            }
            if (walker.sleep > 0) {
                walker.sleep--;
                return;
            }
            try {
                execute(walker, grid[12 * walker.y + walker.x]);
            } catch (Fault fault) {
                walker.status = 2;
            }
            if (walker.status == 0) {
                walker.move();
            }
        }

        private void execute(Walker w, char code) {
            int a;
            int b;
            switch (code) {
                case '+' -> { b = w.pop(); a = w.pop(); w.push((int) ((long) a + b)); }
                case '-' -> { b = w.pop(); a = w.pop(); w.push((int) ((long) a - b)); }
                case '*' -> { b = w.pop(); a = w.pop(); w.push((int) ((long) a * b)); }
                case '/' -> { b = w.pop(); a = w.pop(); w.push(b == 0 ? 0 : (int) ((long) a / b)); }
                case '%' -> { b = w.pop(); a = w.pop(); w.push(b == 0 ? 0 : (int) ((long) a % b)); }
                case '`' -> { b = w.pop(); a = w.pop(); w.push(a > b ? 1 : 0); }
                case '!' -> w.push(w.pop() == 0 ? 1 : 0);
                case ':' -> { a = w.pop(); w.push(a); w.push(a); }
                case '\\' -> { b = w.pop(); a = w.pop(); w.push(b); w.push(a); }
                case '$' -> w.pop();
                case '>' -> w.go(1, 0);
                case 'v' -> w.go(0, 1);
                case '<' -> w.go(-1, 0);
                case '^' -> w.go(0, -1);
                case '_' -> w.go(w.pop() == 0 ? 1 : -1, 0);
                case '|' -> w.go(0, w.pop() == 0 ? 1 : -1);
                case '[' -> w.go(w.dy, -w.dx);
                case ']' -> w.go(-w.dy, w.dx);
                case 'r' -> w.go(-w.dx, -w.dy);
                case '#' -> w.move();
                case '@' -> w.status = 1;
                case 'w' -> { a = w.pop(); w.sleep = a < 0 ? 0 : a > 9 ? 9 : a; }
                default -> executeOther(w, code);
            }
        }

        private void executeOther(Walker w, char code) {
            if (code >= '0' && code <= '9') {
                w.push(code - '0');
            } else if (code == 'g') {
                int y = Math.floorMod(w.pop(), 6);
                int x = Math.floorMod(w.pop(), 12);
                w.push(grid[12 * y + x]);
            } else if (code == 'p') {
                int y = Math.floorMod(w.pop(), 6);
                int x = Math.floorMod(w.pop(), 12);
                int a = w.pop();
                if (a >= 32 && a <= 126) {
                    grid[12 * y + x] = (char) a;
                }
            } else if (code == '.') {
                output.add(w.pop());
            } else if (code == '~') {
                if (input.isEmpty()) {
                    w.go(-w.dx, -w.dy);
                } else {
                    w.push(input.remove(0));
                }
            } else if (code == 't') {
                split(w);
            } else if (code == '{') {
                open(w);
            } else if (code == '}') {
                close(w);
            }
        }

        private void split(Walker w) {
            if (order.size() == 4) {
                return;
            }
            Walker twin = w.copy();
            twin.id = order.size();
            twin.go(-w.dx, -w.dy);
            twin.move();
            order.add(order.indexOf(w) + 1, twin);
        }

        private static List<Integer> takeLast(List<Integer> stack, int n) {
            int count = n < 0 ? 0 : Math.min(n, stack.size());
            List<Integer> tail = stack.subList(stack.size() - count, stack.size());
            List<Integer> taken = new ArrayList<>(tail);
            tail.clear();
            return taken;
        }

        private static void open(Walker w) {
            int n = w.pop();
            if (w.stacks.size() < 3) {
                w.stacks.add(takeLast(w.current(), n));
            }
        }

        private static void close(Walker w) {
            if (w.stacks.size() == 1) {
                w.go(-w.dx, -w.dy);
                return;
            }
            int n = w.pop();
            List<Integer> top = w.stacks.remove(w.stacks.size() - 1);
            w.current().addAll(takeLast(top, n));
        }
    }

    /** The model of the whole object. */
    private static final class Model {
        private final List<Integer> text = new ArrayList<>();
        private final Set<Integer> breakpoints = new HashSet<>();
        private World world = new World();
        private final Deque<World> past = new ArrayDeque<>();
        private final World[] slots = new World[2];

        private void remember() {
            past.push(world.copy());
            if (past.size() > 6) {
                past.removeLast();
            }
        }

        int append(int character) {
            if (character < 0 || character > 255) {
                return -1;
            }
            if (text.size() == 90) {
                return -3;
            }
            text.add(character);
            return text.size();
        }

        int clearText() {
            int length = text.size();
            text.clear();
            return length;
        }

        private boolean valid(int length) {
            List<Integer> lengths = new ArrayList<>(List.of(0));
            for (int character : text.subList(0, length)) {
                int last = lengths.size() - 1;
                if (character == 10 && last < 6) {
                    lengths.add(0);
                } else if (last >= 6 || character < 32 || character > 126) {
                    return false;
                } else {
                    lengths.set(last, lengths.get(last) + 1);
                }
            }
            return lengths.stream().allMatch(line -> line <= 12);
        }

        int load() {
            for (int offset = 0; offset < text.size(); offset++) {
                if (!valid(offset + 1)) {
                    return -10 - offset;
                }
            }
            remember();
            world.program = " ".repeat(72).toCharArray();
            int place = 0;
            int filled = 0;
            for (int character : text) {
                if (character == 10) {
                    place = (place / 16 + 1) * 16;
                } else {
                    world.program[12 * (place / 16) + place % 16] = (char) character;
                    filled += character == 32 ? 0 : 1;
                    place++;
                }
            }
            text.clear();
            world.input.clear();
            world.begin();
            return filled;
        }

        int rewind() {
            int ticks = world.ticks;
            remember();
            world.begin();
            return ticks;
        }

        int feed(int value) {
            if (world.input.size() == 16) {
                return -3;
            }
            remember();
            world.input.add(value);
            return world.input.size();
        }

        private static boolean outside(int x, int y) {
            return x < 0 || x > 11 || y < 0 || y > 5;
        }

        int poke(int x, int y, int code) {
            if (outside(x, y) || code < 32 || code > 126) {
                return -1;
            }
            remember();
            int previous = world.grid[12 * y + x];
            world.grid[12 * y + x] = (char) code;
            return previous;
        }

        private boolean atBreakpoint() {
            return world.order.stream().anyMatch(
                walker -> walker.status == 0 && walker.sleep == 0 && breakpoints.contains(12 * walker.y + walker.x));
        }

        int tick(int limit, boolean breaks) {
            if (limit < 1 || limit > 200) {
                return -1;
            }
            if (world.halted()) {
                return -2;
            }
            remember();
            for (int done = 1; done <= limit; done++) {
                world.tick();
                if (world.halted() || breaks && atBreakpoint()) {
                    return done;
                }
            }
            return limit;
        }

        int setBreakpoint(int x, int y, int on) {
            if (outside(x, y) || on < 0 || on > 1) {
                return -1;
            }
            boolean changed = on == 1 ? breakpoints.add(12 * y + x) : breakpoints.remove(12 * y + x);
            return changed ? breakpoints.size() : -2;
        }

        int undo() {
            if (past.isEmpty()) {
                return -2;
            }
            world = past.pop();
            return past.size();
        }

        int ticksToHalt(int limit) {
            if (limit < 1 || limit > 200) {
                return -1;
            }
            World future = world.copy();
            for (int done = 0; done <= limit; done++) {
                if (future.halted()) {
                    return done;
                }
                future.tick();
            }
            return -9;
        }

        int cycle(int limit, boolean start) {
            if (limit < 1 || limit > 200) {
                return -1;
            }
            if (ticksToHalt(limit) != -9) {
                return -9;
            }
            World future = world.copy();
            List<String> seen = new ArrayList<>();
            for (int k = 0; k <= limit; k++) {
                seen.add(future.configuration());
                future.tick();
            }
            for (int i = 0; i <= limit; i++) {
                for (int j = i + 1; j <= limit; j++) {
                    if (seen.get(i).equals(seen.get(j))) {
                        return start ? i : j - i;
                    }
                }
            }
            return -9;
        }

        int save(int slot) {
            if (slot != 0 && slot != 1) {
                return -1;
            }
            slots[slot] = world.copy();
            return world.ticks;
        }

        int restore(int slot) {
            if (slot != 0 && slot != 1) {
                return -1;
            }
            if (slots[slot] == null) {
                return -2;
            }
            world = slots[slot].copy();
            past.clear();
            return world.ticks;
        }

        int pointerAt(int place) {
            return place < 0 || place >= world.order.size() ? -1 : world.order.get(place).id;
        }

        private Walker walker(int id) {
            return world.order.stream().filter(walker -> walker.id == id).findAny().orElse(null);
        }

        /** Position, direction, status, sleep count and number of stacks of a pointer, by their numbers from 0. */
        int of(int id, int what) {
            Walker w = walker(id);
            if (w == null) {
                return -1;
            }
            return List.of(12 * w.y + w.x, w.heading(), w.status, w.sleep, w.stacks.size()).get(what);
        }

        int stackSize(int id, int stack) {
            Walker w = walker(id);
            return w == null || stack < 0 || stack >= w.stacks.size() ? -1 : w.stacks.get(stack).size();
        }

        int valueAt(int id, int stack, int index) {
            return index < 0 || index >= stackSize(id, stack) ? 0 : walker(id).stacks.get(stack).get(index);
        }

        int outputAt(int index) {
            int dropped = Math.max(0, world.output.size() - 20);
            return index < 0 || index >= world.output.size() - dropped ? 0 : world.output.get(dropped + index);
        }

        int cellAt(int x, int y) {
            return outside(x, y) ? -1 : world.grid[12 * y + x];
        }

        /** The same text as Due.look() makes of a machine. */
        String look() {
            StringBuilder seen = new StringBuilder();
            int changed = 0;
            for (int cell = 0; cell < 72; cell++) {
                seen.append(world.grid[cell]).append(cell % 12 == 11 ? "/" : "");
                changed += world.grid[cell] == world.program[cell] ? 0 : 1;
            }
            seen.append(" changed ").append(changed);
            for (Walker walker : world.order) {
                seen.append(walker.show());
            }
            seen.append(" input ").append(world.input.size()).append(" output");
            List<Integer> output = world.output;
            for (int value : output.subList(Math.max(0, output.size() - 20), output.size())) {
                seen.append(' ').append(value);
            }
            seen.append(" of ").append(output.size()).append(" ticks ").append(world.ticks);
            return seen.append(" undo ").append(past.size()).toString();
        }
    }
}
