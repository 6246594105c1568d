import java.lang.reflect.Array;
import java.lang.reflect.Field;
import java.lang.reflect.Modifier;
import java.util.ArrayDeque;
import java.util.Collections;
import java.util.Deque;
import java.util.IdentityHashMap;
import java.util.Set;

/** What the object holds stays small: one run of 512 calls lives in one room. */
public final class RoomTest {
    private static final int OBJECTS = 600000;
    private static final int ELEMENTS = 7300000;
    private static final int CALLS = 512;

    private int objects;
    private int elements;

    public static void main(String[] args) throws Exception {
        RoomTest empty = new RoomTest();
        empty.count(new LetterFoundry());
        Check.due("512 new objects: objects", (long) CALLS * empty.objects <= OBJECTS, true);
        Check.due("512 new objects: elements", (long) CALLS * empty.elements <= ELEMENTS, true);
        LetterFoundry f = new LetterFoundry();
        fill(f);
        RoomTest full = new RoomTest();
        full.count(f);
        // each letter with its rows, each part, and nothing by all the other calls
        Check.due("a full object: objects", full.objects <= empty.objects + 32 * 24 + 6, true);
        Check.due("a full object: elements", full.elements <= empty.elements + 32 * 1400 + 6 * 8, true);
        work(f);
        RoomTest worked = new RoomTest();
        worked.count(f);
        Check.due("work makes no objects", worked.objects, full.objects);
        Check.due("work makes no elements", worked.elements, full.elements);
        Check.end();
    }

    private static void fill(LetterFoundry f) {
        for (int l = 0; l < 32; l++) {
            f.letter(l, l);
        }
        for (int k = 0; k < 6; k++) {
            f.part(31, 0, k, k);
        }
    }

    private static void work(LetterFoundry f) {
        Bench.outline(f, 0, 0, 0, 0, 100, 500, 1, 200, 0, 0);
        Bench.acts(f, 0, 0, 5, 23, 0, 28, 0);
        for (int k = 0; k < 40; k++) {
            f.join(k, 1, -1, 0);
            f.sign(k);
            f.exception(k % 32, 1, k);
        }
        f.set();
        f.flatten(31, 1);
        f.image(0, 1, 32, 0);
        f.run(0, 16);
        f.drop(0);
        f.wipe(0);
    }

    private void count(Object root) throws Exception {
        Set<Object> seen = Collections.newSetFromMap(new IdentityHashMap<>());
        Deque<Object> open = new ArrayDeque<>();
        open.add(root);
        while (!open.isEmpty()) {
            Object o = open.remove();
            if (seen.add(o)) {
                objects++;
                addInside(o, open);
            }
        }
    }

    private void addInside(Object o, Deque<Object> open) throws Exception {
        if (o.getClass().isArray()) {
            elements += Array.getLength(o);
            for (int k = 0; k < Array.getLength(o) && !o.getClass().getComponentType().isPrimitive(); k++) {
                addIfThere(Array.get(o, k), open);
            }
            return;
        }
        for (Field field : o.getClass().getDeclaredFields()) {
            if (!Modifier.isStatic(field.getModifiers())) {
                elements++;
                field.setAccessible(true);
                if (!field.getType().isPrimitive()) {
                    addIfThere(field.get(o), open);
                }
            }
        }
    }

    private static void addIfThere(Object o, Deque<Object> open) {
        if (o != null) {
            open.add(o);
        }
    }
}
