import java.lang.reflect.Array;
import java.lang.reflect.Field;
import java.lang.reflect.Modifier;
import java.util.ArrayDeque;
import java.util.Collections;
import java.util.Deque;
import java.util.IdentityHashMap;
import java.util.Set;

/**
 * What one railway holds stays far below the room that a run has, and calls add nothing to it. That no call makes
 * objects for a while either is what LanguageTest checks.
 */
public final class RoomTest {
    private static final int OBJECTS = 1_000;
    private static final int ELEMENTS = 10_000;

    private final Set<Object> objects = Collections.newSetFromMap(new IdentityHashMap<>());
    private final Deque<Object> unseen = new ArrayDeque<>();
    private int elements;

    private RoomTest(Object root) throws IllegalAccessException {
        add(root);
        while (!unseen.isEmpty()) {
            Object object = unseen.pop();
            if (object.getClass().isArray()) {
                countArray(object);
            } else {
                countFields(object);
            }
        }
    }

    private void add(Object object) {
        if (object != null && objects.add(object)) {
            unseen.push(object);
        }
    }

    private void countArray(Object array) {
        boolean hasObjects = !array.getClass().getComponentType().isPrimitive();
        for (int i = 0; i < Array.getLength(array); i++) {
            elements++;
            if (hasObjects) {
                add(Array.get(array, i));
            }
        }
    }

    private void countFields(Object object) throws IllegalAccessException {
        for (Field field : object.getClass().getDeclaredFields()) {
            if (Modifier.isStatic(field.getModifiers())) {
                continue;
            }
            elements++;
            if (!field.getType().isPrimitive()) {
                field.setAccessible(true);
                add(field.get(object));
            }
        }
    }

    private static void change(ParcelRailway railway, int i) {
        railway.pass(1 + i % 5);
        railway.save(i % 2);
        railway.restore(i % 2);
        railway.setTrackOpen(1, 2, i % 3 > 0);
        railway.writeTrains();
        railway.worstClosure();
        if (i % 3 == 0) {
            railway.undo();
        }
        if (i % 20 == 19) {
            Check.load(railway, "stop a;stop b;request c;track a b 1;track b c 2;train 4 a b c;parcel a c 1;run 3;");
        }
    }

    public static void main(String[] args) throws IllegalAccessException {
        ParcelRailway railway = new ParcelRailway();
        RoomTest before = new RoomTest(railway);
        for (int i = 0; i < 60; i++) {
            change(railway, i);
        }
        RoomTest after = new RoomTest(railway);
        Check.holds(0, "objects: " + before.objects.size(), true, () -> before.objects.size() <= OBJECTS);
        Check.holds(0, "fields and elements: " + before.elements, true, () -> before.elements <= ELEMENTS);
        Check.holds(0, "the same objects after many calls", true, () -> before.objects.containsAll(after.objects));
        Check.is(0, "fields and elements after many calls", before.elements, () -> after.elements);
        Check.holds(0, "the walk sees the railway", true, () -> before.objects.size() > 100 && before.elements > 1_000);
        System.out.println("one railway: " + before.objects.size() + " objects, " + before.elements
                + " fields and elements");
        Check.finish("RoomTest");
    }
}
