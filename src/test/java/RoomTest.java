import java.lang.reflect.Array;
import java.lang.reflect.Field;
import java.lang.reflect.Modifier;
import java.util.ArrayDeque;
import java.util.Collections;
import java.util.Deque;
import java.util.IdentityHashMap;
import java.util.Set;

/** Rule 12 of LANGUAGE.md: what an object takes is counted, and no call makes it more. */
public final class RoomTest {
    private static final Check CHECK = new Check();
    /** So many that some 90 objects have room in one run. */
    private static final int MOST_OBJECTS = 1000;
    private static final int MOST_CELLS = 80000;

    public static void main(String[] args) throws IllegalAccessException {
        TarForms x = new TarForms();
        long[] before = counted(x);
        CHECK.isTrue("objects of a new one: " + before[0], before[0] <= MOST_OBJECTS);
        CHECK.isTrue("fields and elements of a new one: " + before[1], before[1] <= MOST_CELLS);
        useAll(x);
        CHECK.due("objects after use", counted(x)[0], before[0]);
        CHECK.due("fields and elements after use", counted(x)[1], before[1]);
        CHECK.close();
    }

    private static void useAll(TarForms x) {
        for (int i = 0; i < 8; i++) {
            Calls.name(x, Calls.text('n', 200));
            Calls.link(x, Calls.text('l', 300));
            x.number(3, -1);
            x.number(4, i);
            x.entry(49, 0, 0);
        }
        for (int family = 0; family < 4; family++) {
            x.write(family, family % 2 == 1);
            x.read(true);
        }
        CHECK.due("FOUND", x.told(2), 8);
        x.clear();
    }

    /** How many objects are reached from one, and how many fields and elements these have. */
    private static long[] counted(Object first) throws IllegalAccessException {
        Set<Object> seen = Collections.newSetFromMap(new IdentityHashMap<>());
        Deque<Object> open = new ArrayDeque<>();
        open.add(first);
        seen.add(first);
        long cells = 0;
        while (!open.isEmpty()) {
            Object each = open.remove();
            cells += each.getClass().isArray() ? elements(each, seen, open) : fields(each, seen, open);
        }
        return new long[] {seen.size(), cells};
    }

    private static long elements(Object array, Set<Object> seen, Deque<Object> open) {
        int n = Array.getLength(array);
        for (int i = 0; i < n && !array.getClass().getComponentType().isPrimitive(); i++) {
            reach(Array.get(array, i), seen, open);
        }
        return n;
    }

    private static long fields(Object each, Set<Object> seen, Deque<Object> open) throws IllegalAccessException {
        long n = 0;
        for (Field f : each.getClass().getDeclaredFields()) {
            if (!Modifier.isStatic(f.getModifiers())) {
                n++;
                f.setAccessible(true);
                reach(f.getType().isPrimitive() ? null : f.get(each), seen, open);
            }
        }
        return n;
    }

    private static void reach(Object next, Set<Object> seen, Deque<Object> open) {
        if (next != null && seen.add(next)) {
            open.add(next);
        }
    }
}
