import java.lang.management.ManagementFactory;
import java.lang.reflect.Array;
import java.lang.reflect.Field;
import java.lang.reflect.Modifier;
import java.util.ArrayDeque;
import java.util.Collections;
import java.util.Deque;
import java.util.IdentityHashMap;
import java.util.Set;

/** All calls of one run live in one room, so an object is small and its calls make none. */
public final class RoomTest {
    private static final int CALLS = 512;
    private static final int ROOM_OBJECTS = 600_000;
    private static final int ROOM_ELEMENTS = 7_300_000;
    private static final int ROUNDS = 500;
    private static final int SMALLEST_OBJECT = 16;

    private RoomTest() {
    }

    public static void main(String[] args) throws IllegalAccessException {
        theSizeOfAnObject();
        theCallsMakeNothing();
        Due.end();
    }

    /** Even a run that makes an object with each of its calls has room. */
    private static void theSizeOfAnObject() throws IllegalAccessException {
        Set<Object> seen = Collections.newSetFromMap(new IdentityHashMap<>());
        Deque<Object> open = new ArrayDeque<>();
        open.add(new GridMachine());
        long elements = 0;
        while (!open.isEmpty()) {
            Object next = open.remove();
            if (seen.add(next)) {
                elements += next.getClass().isArray() ? openArray(next, open) : openFields(next, open);
            }
        }
        System.out.println("an object has " + seen.size() + " objects and arrays, " + elements + " fields and elements");
        Due.isTrue("objects of an object", (long) seen.size() * CALLS < ROOM_OBJECTS);
        Due.isTrue("elements of an object", elements * CALLS < ROOM_ELEMENTS);
    }

    private static int openArray(Object array, Deque<Object> open) {
        int length = Array.getLength(array);
        for (int i = 0; i < length; i++) {
            if (!array.getClass().getComponentType().isPrimitive()) {
                open.add(Array.get(array, i));
            }
        }
        return length;
    }

    private static int openFields(Object object, Deque<Object> open) throws IllegalAccessException {
        int fields = 0;
        for (Field field : object.getClass().getDeclaredFields()) {
            if (Modifier.isStatic(field.getModifiers())) {
                continue;
            }
            fields++;
            field.setAccessible(true);
            if (!field.getType().isPrimitive()) {
                open.add(field.get(object));
            }
        }
        return fields;
    }

    private static long allocated() {
        return ((com.sun.management.ThreadMXBean) ManagementFactory.getThreadMXBean()).getCurrentThreadAllocatedBytes();
    }

    private static void theCallsMakeNothing() {
        GridMachine x = Due.machine("1+:.~t0{w}\n@");
        callAll(x);
        long before = allocated();
        for (int i = 0; i < ROUNDS; i++) {
            callAll(x);
        }
        // The measuring itself takes some bytes; an object for each round would take far more.
        Due.isTrue("the calls make no object", allocated() - before < ROUNDS * SMALLEST_OBJECT);
    }

    private static void callAll(GridMachine x) {
        x.append(49);
        x.append(64);
        x.load();
        x.clearText();
        x.feed(5);
        x.poke(4, 4, 65);
        x.setBreakpoint(3, 3, 1);
        x.setBreakpoint(3, 3, 0);
        x.ticksToHalt(200);
        x.cycleStart(200);
        x.cycleLength(200);
        x.tick(20);
        x.undo();
        x.run(20);
        x.rewind();
        x.save(0);
        x.restore(0);
        x.changedCells();
        x.valueAt(0, 0, 0);
    }
}
