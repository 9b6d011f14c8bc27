import java.lang.reflect.Array;
import java.lang.reflect.Field;
import java.lang.reflect.Modifier;
import java.util.ArrayDeque;
import java.util.Collections;
import java.util.Deque;
import java.util.IdentityHashMap;
import java.util.Set;

/** All calls of one run live in one room of some 600,000 objects and arrays and 7.3 million fields and elements. */
public final class RoomTest {
    /** So many objects of the class, one for each call of the longest run, shall fit the room. */
    private static final int MADE = 512;
    private static final int OBJECTS = 600_000 / MADE, PLACES = 7_300_000 / MADE;

    private final Set<Object> found = Collections.newSetFromMap(new IdentityHashMap<>());
    private final Deque<Object> open = new ArrayDeque<>();
    private int places = 0;

    public static void main(String[] args) throws IllegalAccessException {
        AfternoonChange x = new AfternoonChange();
        RoomTest atFirst = new RoomTest(x);
        Due.holds(atFirst.found.size() + " objects are few", atFirst.found.size() <= OBJECTS);
        Due.holds(atFirst.places + " fields and elements are few", atFirst.places <= PLACES);
        Due.holds("they were found", atFirst.found.size() > 10 && atFirst.places > 1000);
        busy(x);
        RoomTest atLast = new RoomTest(x);
        Due.is("fields and elements behind all calls", atLast.places, atFirst.places);
        Due.is("objects behind all calls", atLast.found.size(), atFirst.found.size());
        Due.holds("the same objects behind all calls", atLast.found.containsAll(atFirst.found));
        Due.end("RoomTest");
    }

    private static void busy(AfternoonChange x) {
        Due.type(x, 0, "b09c;b09c;d09e;d09e;e09f;e09f;f09g;f09g");
        Due.type(x, 1, "CEFGAAAAAAAAAAAA");
        for (int s = 0; s < 4; s++) {
            x.sheet(s, s % 3, 60);
            x.lose(s);
            x.sheet(s, s % 3, 60);
            x.write(9, s);
            x.read(s);
        }
        x.copy(0, 0, 3, 0, 60);
        x.set(1, 1023);
        x.digest();
        x.set(2, 255);
        x.digest();
    }

    private RoomTest(AfternoonChange x) throws IllegalAccessException {
        meet(x);
        while (!open.isEmpty()) {
            Object next = open.pop();
            if (next.getClass().isArray()) {
                elements(next);
            } else {
                fields(next);
            }
        }
    }

    private void meet(Object o) {
        if (o != null && found.add(o)) {
            open.push(o);
        }
    }

    private void elements(Object row) {
        places += Array.getLength(row);
        for (int i = 0; i < Array.getLength(row) && !row.getClass().getComponentType().isPrimitive(); i++) {
            meet(Array.get(row, i));
        }
    }

    private void fields(Object o) throws IllegalAccessException {
        for (Field f : o.getClass().getDeclaredFields()) {
            if (!Modifier.isStatic(f.getModifiers())) {
                places++;
                f.setAccessible(true);
                if (!f.getType().isPrimitive()) {
                    meet(f.get(o));
                }
            }
        }
    }
}
