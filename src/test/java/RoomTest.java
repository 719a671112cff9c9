import java.lang.reflect.Array;
import java.lang.reflect.Field;
import java.lang.reflect.Modifier;
import java.util.Collections;
import java.util.IdentityHashMap;
import java.util.Set;

/** "All memory is the class's own, made once": no call puts another object or array into the object. */
public final class RoomTest {
    private static final int MOST_ELEMENTS = 14000;
    private static final int MOST_OBJECTS = 80;

    private final Set<Object> met = Collections.newSetFromMap(new IdentityHashMap<>());
    private int elements = 0;

    public static void main(String[] args) throws IllegalAccessException {
        TourHouse x = new TourHouse();
        RoomTest before = new RoomTest();
        before.walk(x);
        callEverything(x, false);
        callEverything(x, true);
        RoomTest after = new RoomTest();
        after.walk(x);
        Checks.due("the same objects and arrays", after.met.containsAll(before.met), true);
        Checks.due("how many objects and arrays", after.met.size(), before.met.size());
        Checks.due("how many fields and elements", after.elements, before.elements);
        Checks.due("objects and arrays are few", before.met.size() <= MOST_OBJECTS, true);
        Checks.due("fields and elements are few", before.elements <= MOST_ELEMENTS, true);
        Checks.finish();
    }

    private static void callEverything(TourHouse x, boolean directed) {
        x.reset(directed, 16);
        for (int e = 0; e < 40; e++) {
            x.edge(e % 16, (e + 1) % 16, e);
            x.step(2 * e);
        }
        x.distance(3, 1);
        x.round(5);
        x.extra(4);
        x.row(4);
        x.judge(0);
        for (int what = 0; what <= 8; what++) {
            x.look(what);
        }
        for (int e = 39; e >= 32; e--) {
            x.drop();
        }
        x.tour(7);
        Checks.dueThrow("edge(16, 0, 0)", x, Bounds.ARGUMENT, () -> x.edge(16, 0, 0));
    }

    private void walk(Object object) throws IllegalAccessException {
        if (object == null || !met.add(object)) {
            return;
        }
        if (object.getClass().isArray()) {
            elements += Array.getLength(object);
            if (!object.getClass().getComponentType().isPrimitive()) {
                for (int i = 0; i < Array.getLength(object); i++) {
                    walk(Array.get(object, i));
                }
            }
            return;
        }
        for (Field field : object.getClass().getDeclaredFields()) {
            if (!Modifier.isStatic(field.getModifiers())) {
                elements++;
                field.setAccessible(true);
                if (!field.getType().isPrimitive()) {
                    Checks.due("field " + field.getName() + " is final", Modifier.isFinal(field.getModifiers()), true);
                    walk(field.get(object));
                }
            }
        }
    }
}
