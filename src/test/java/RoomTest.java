import java.lang.reflect.Array;
import java.lang.reflect.Field;
import java.lang.reflect.Modifier;
import java.util.ArrayDeque;
import java.util.Collections;
import java.util.IdentityHashMap;
import java.util.Set;

/** All calls of a run live in one room: as many objects as there are calls in one must fit, and no call makes more. */
public final class RoomTest {
    private static final int CALLS = 512;
    private static final int OBJECTS = 600000;
    private static final int ELEMENTS = 7300000;

    private int objects;
    private int elements;

    public static void main(String[] args) throws IllegalAccessException {
        Due due = new Due("RoomTest");
        RoomTest made = new RoomTest();
        made.count(new LoadSpans());
        System.out.println("an object: " + made.objects + " objects and arrays, " + made.elements + " fields and elements");
        due.is("objects and arrays of " + CALLS, made.objects * CALLS < OBJECTS, true);
        due.is("fields and elements of " + CALLS, made.elements * CALLS < ELEMENTS, true);
        RoomTest used = new RoomTest();
        used.count(used());
        due.is("objects and arrays behind calls", used.objects, made.objects);
        due.is("fields and elements behind calls", used.elements, made.elements);
        due.close();
    }

    private static LoadSpans used() {
        LoadSpans x = Texts.loader("span 1 99;hold a 999 front;" + "spot 50 99;".repeat(6) + "bin 50 99;bin 50 99;",
            "pallet a 1 1;pallet b 1 1;pallet c 1 1;pallet d 1 1;bulk 99;");
        x.come(1, 1);
        x.image(0);
        x.image(1);
        x.take(x.loadings() - 1);
        for (int call = 0; call < CALLS; call++) {
            x.weigh(0, 1 + call % 99);
            x.handlings(call);
            x.mend();
        }
        return x;
    }

    private void count(Object first) throws IllegalAccessException {
        Set<Object> seen = Collections.newSetFromMap(new IdentityHashMap<>());
        ArrayDeque<Object> open = new ArrayDeque<>();
        open.add(first);
        seen.add(first);
        while (!open.isEmpty()) {
            Object o = open.poll();
            objects++;
            if (o.getClass().isArray()) {
                elements += Array.getLength(o);
                for (int i = 0; i < Array.getLength(o) && !o.getClass().getComponentType().isPrimitive(); i++) {
                    add(Array.get(o, i), seen, open);
                }
                continue;
            }
            for (Field f : o.getClass().getDeclaredFields()) {
                if (!Modifier.isStatic(f.getModifiers())) {
                    elements++;
                    f.setAccessible(true);
                    if (!f.getType().isPrimitive()) {
                        add(f.get(o), seen, open);
                    }
                }
            }
        }
    }

    private static void add(Object o, Set<Object> seen, ArrayDeque<Object> open) {
        if (o != null && seen.add(o)) {
            open.add(o);
        }
    }
}
