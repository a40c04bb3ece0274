import java.lang.reflect.Array;
import java.lang.reflect.Field;
import java.lang.reflect.Modifier;
import java.util.ArrayDeque;
import java.util.Collections;
import java.util.IdentityHashMap;
import java.util.Set;

/**
 * All calls of a run live in one room. An object keeps so little of it, whatever was called, that there is room for one
 * new object a call; and what a full object keeps does not grow.
 */
public final class RoomTest extends Checks {
    private static final int CALLS = 512;
    private static final int OBJECTS = 600_000 / CALLS, CELLS = 7_300_000 / CALLS;

    public static void main(String[] args) throws IllegalAccessException {
        dueRoom("a new object", new TriggerStages());
        TriggerStages full = full();
        int[] room = dueRoom("a full object", full);
        useAll(full);
        int[] behind = dueRoom("a full object, used again", full);
        due("objects are used again", behind[0], room[0]);
        due("cells are used again", behind[1], room[1]);
        end("the room is kept");
    }

    /** Makes an object whose tables, triggers, journal, history, slots and pad are as full as they get. */
    private static TriggerStages full() {
        TriggerStages x = new TriggerStages();
        for (int table = 0; table < 4; table++) {
            layRows(x, table, 12);
        }
        x.set(0, 8);
        for (int i = 0; i < 12; i++) {
            make(x, 0, ADD, LAST, 0, DO_ADD, 1 + i % 3, 0, 0);
        }
        useAll(x);
        put(x, "a0.0+1;".repeat(8) + "d1.0");
        return x;
    }

    private static void useAll(TriggerStages x) {
        for (int i = 0; i < 8; i++) {
            x.state(ADD, 0, 0, 1);
            x.tried(ADD, 0, 0, 1, 2);
            x.culprits(ADD, 0, 9, 999);
            x.leastDepth(ADD, 0, 0, 1);
            x.ofTrigger(0, 9);
            x.count(9);
        }
        x.fault();
        x.save(0);
        x.save(1);
        x.restore(0);
        x.undo();
        x.carryOut();
        put(x, "a0.0+1;d1.");
    }

    private static int[] dueRoom(String name, TriggerStages x) throws IllegalAccessException {
        int[] room = roomOf(x);
        due(name + " has at most " + OBJECTS + " objects, and has " + room[0], room[0] <= OBJECTS ? 1 : 0, 1);
        due(name + " has at most " + CELLS + " cells, and has " + room[1], room[1] <= CELLS ? 1 : 0, 1);
        return room;
    }

    /** Counts the objects and arrays that one leads to, itself with them, and their fields and elements. */
    private static int[] roomOf(Object first) throws IllegalAccessException {
        Set<Object> found = Collections.newSetFromMap(new IdentityHashMap<>());
        ArrayDeque<Object> open = new ArrayDeque<>();
        int cells = 0;
        meet(first, found, open);
        while (!open.isEmpty()) {
            Object one = open.poll();
            if (one.getClass().isArray()) {
                cells += Array.getLength(one);
                for (int i = 0; i < Array.getLength(one) && one instanceof Object[]; i++) {
                    meet(Array.get(one, i), found, open);
                }
                continue;
            }
            for (Field field : one.getClass().getDeclaredFields()) {
                if (Modifier.isStatic(field.getModifiers())) {
                    continue;
                }
                cells++;
                field.setAccessible(true);
                if (!field.getType().isPrimitive()) {
                    meet(field.get(one), found, open);
                }
            }
        }
        return new int[] {found.size(), cells};
    }

    private static void meet(Object one, Set<Object> found, ArrayDeque<Object> open) {
        if (one != null && found.add(one)) {
            open.add(one);
        }
    }
}
