import java.lang.reflect.Array;
import java.lang.reflect.Field;
import java.lang.reflect.Modifier;
import java.util.ArrayDeque;
import java.util.Collections;
import java.util.Deque;
import java.util.IdentityHashMap;
import java.util.Set;

/** All calls of a run live in one room; a new object is the dearest of them, so 512 of these have to fit. */
public final class RoomTests extends Bench {
    private static final long MOST_OBJECTS = 600000;
    private static final long MOST_ELEMENTS = 7300000;
    private static final int CALLS = 512;

    private long objects = 0;
    private long elements = 0;

    public static void main(String[] args) throws IllegalAccessException {
        RoomTests tests = new RoomTests();
        tests.newObjects();
        tests.longestRun(PUT);
        tests.longestRun(BLOCK);
        tests.whatHasItsRowsMakesNothing();
        tests.check.finish();
    }

    private void newObjects() throws IllegalAccessException {
        count(new RegisterMachine());
        check.same("as many new objects as calls fit: objects", objects * CALLS < MOST_OBJECTS, true);
        check.same("as many new objects as calls fit: elements", elements * CALLS < MOST_ELEMENTS, true);
    }

    /** Rows are doubled, so what was thrown away is not more than what is kept. */
    private void longestRun(int op) throws IllegalAccessException {
        writeLong(op);
        count(m);
        check.same("a long run keeps few objects", objects < 100, true);
        check.same("a long run keeps few elements", 2 * elements < MOST_ELEMENTS / 100, true);
    }

    private void whatHasItsRowsMakesNothing() throws IllegalAccessException {
        writeLong(PUT);
        Set<Object> before = reachable(m);
        for (int i = 0; i < CALLS; i++) {
            m.call(0);
            m.run(2000);
            m.function(0, 0, 0);
            m.code(PUT, i, 0);
            m.drop();
        }
        check.same("calls, runs and functions that are dropped use the rows again", before.containsAll(reachable(m)),
            true);
    }

    private void writeLong(int op) {
        fresh(1);
        begin(0, 0, 0);
        int inside = op == BLOCK ? 240 : 200;
        write("many", inside, op);
        write("many again", inside, op == BLOCK ? END : FORGET);
        write("the end", END, 0, 0);
        callWith(0);
        m.run(2000);
        states("all was run", 0, 2, 11, 1);
    }

    private void count(Object root) throws IllegalAccessException {
        elements = 0;
        objects = 0;
        for (Object one : reachable(root)) {
            objects++;
            elements += one.getClass().isArray() ? Array.getLength(one) : fields(one);
        }
    }

    private static int fields(Object one) {
        int own = 0;
        for (Field field : one.getClass().getDeclaredFields()) {
            own += Modifier.isStatic(field.getModifiers()) ? 0 : 1;
        }
        return own;
    }

    private static Set<Object> reachable(Object root) throws IllegalAccessException {
        Set<Object> found = Collections.newSetFromMap(new IdentityHashMap<>());
        Deque<Object> waiting = new ArrayDeque<>();
        waiting.add(root);
        while (!waiting.isEmpty()) {
            Object one = waiting.remove();
            if (!found.add(one)) {
                continue;
            }
            if (one instanceof Object[] row) {
                for (Object inside : row) {
                    addTo(waiting, inside);
                }
            } else if (!one.getClass().isArray()) {
                addFields(waiting, one);
            }
        }
        return found;
    }

    private static void addFields(Deque<Object> waiting, Object one) throws IllegalAccessException {
        for (Field field : one.getClass().getDeclaredFields()) {
            if (!Modifier.isStatic(field.getModifiers()) && !field.getType().isPrimitive()) {
                field.setAccessible(true);
                addTo(waiting, field.get(one));
            }
        }
    }

    private static void addTo(Deque<Object> waiting, Object one) {
        if (one != null) {
            waiting.add(one);
        }
    }
}
