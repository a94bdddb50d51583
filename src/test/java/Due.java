/** Compares answers with what is due, prints the wrong ones and ends the program with exit code 1 if there was one. */
final class Due {
    private static int asked = 0;
    private static int wrong = 0;

    private Due() {
    }

    static void is(String what, long got, long want) {
        asked++;
        if (got != want) {
            wrong++;
            System.out.println(what + " answered " + got + ", due is " + want);
        }
    }

    static void isTrue(String what, boolean holds) {
        is(what, holds ? 1 : 0, 1);
    }

    static int askedSoFar() {
        return asked;
    }

    static int wrongSoFar() {
        return wrong;
    }

    static void end() {
        if (wrong != 0) {
            System.out.println(wrong + " of " + asked + " answers are not as due");
            System.exit(1);
        }
        System.out.println("all " + asked + " answers are as due");
    }

    /** Appends the characters of a program text to a machine. */
    static void type(GridMachine machine, String text) {
        for (int i = 0; i < text.length(); i++) {
            int length = machine.append(text.charAt(i));
            if (length < 0) {
                is("append(" + (int) text.charAt(i) + ")", length, i + 1);
            }
        }
    }

    /** Makes a machine and loads a program, which must be valid. */
    static GridMachine machine(String text) {
        GridMachine machine = new GridMachine();
        type(machine, text);
        int cells = 0;
        for (int i = 0; i < text.length(); i++) {
            cells += text.charAt(i) != ' ' && text.charAt(i) != '\n' ? 1 : 0;
        }
        is("load() of " + text, machine.load(), cells);
        return machine;
    }

    /** Loads a program into a new machine and performs ticks. */
    static GridMachine ticked(String text, int ticks) {
        GridMachine machine = machine(text);
        is("tick(" + ticks + ") of " + text, machine.tick(ticks), ticks);
        return machine;
    }

    /** Compares the values of one stack, its size included. */
    static void stack(String what, GridMachine machine, int pointer, int stack, int... values) {
        is(what + ": stackSize(" + pointer + ", " + stack + ")", machine.stackSize(pointer, stack), values.length);
        for (int i = 0; i < values.length; i++) {
            is(what + ": valueAt(" + pointer + ", " + stack + ", " + i + ")",
                    machine.valueAt(pointer, stack, i), values[i]);
        }
    }

    /** Compares the values that the output keeps, and their number. */
    static void output(String what, GridMachine machine, int... values) {
        is(what + ": outputSize()", machine.outputSize(), values.length);
        for (int i = 0; i < values.length; i++) {
            is(what + ": outputAt(" + i + ")", machine.outputAt(i), values[i]);
        }
    }

    /** All that the methods of the face tell of the state, as a text; none of these calls changes anything. */
    static String look(GridMachine machine) {
        StringBuilder seen = new StringBuilder();
        for (int y = 0; y < 6; y++) {
            for (int x = 0; x < 12; x++) {
                seen.append((char) machine.cellAt(x, y));
            }
            seen.append('/');
        }
        seen.append(" changed ").append(machine.changedCells());
        for (int place = 0; place < machine.pointerCount(); place++) {
            int id = machine.pointerAt(place);
            seen.append(" pointer ").append(id).append(" at ").append(machine.position(id));
            seen.append(" heading ").append(machine.direction(id)).append(" status ").append(machine.status(id));
            seen.append(" sleep ").append(machine.sleep(id));
            for (int stack = 0; stack < machine.stackCount(id); stack++) {
                seen.append(" [");
                for (int i = 0; i < machine.stackSize(id, stack); i++) {
                    seen.append(' ').append(machine.valueAt(id, stack, i));
                }
                seen.append(" ]");
            }
        }
        seen.append(" input ").append(machine.inputSize()).append(" output");
        for (int i = 0; i < machine.outputSize(); i++) {
            seen.append(' ').append(machine.outputAt(i));
        }
        seen.append(" of ").append(machine.outputTotal()).append(" ticks ").append(machine.tickCount());
        seen.append(" undo ").append(machine.undoDepth());
        return seen.toString();
    }

    static void same(String what, String got, String want) {
        asked++;
        if (!got.equals(want)) {
            wrong++;
            System.out.println(what + " shows\n  " + got + ", due is\n  " + want);
        }
    }
}
