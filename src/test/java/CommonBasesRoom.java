import java.lang.reflect.Array;
import java.lang.reflect.Field;
import java.lang.reflect.Modifier;
import java.util.ArrayDeque;
import java.util.ArrayList;
import java.util.Collections;
import java.util.Deque;
import java.util.IdentityHashMap;
import java.util.List;
import java.util.Set;

/**
 * The room that one object takes. CommonBasesLanguage sees to it that objects are made in constructors
 * alone, so what hangs on a new object is all that a run on it ever makes.
 */
public final class CommonBasesRoom {
    /** A run makes one object; were each of its calls one that makes another, the room would still do. */
    private static final int MOST_CALLS = 512;
    private static final int ROOM_OBJECTS = 600000;
    private static final int ROOM_ELEMENTS = 7300000;

    private static int objects = 0;
    private static int elements = 0;

    public static void main(String[] args) throws IllegalAccessException {
        count(new CommonBases(10));
        boolean fits = objects * MOST_CALLS <= ROOM_OBJECTS && elements * MOST_CALLS <= ROOM_ELEMENTS;
        System.out.println("a new object: " + objects + " objects and arrays, " + elements + " fields and elements"
                + (fits ? "" : ", which is more than the room has"));
        if (!fits) {
            System.exit(1);
        }
    }

    private static void count(Object first) throws IllegalAccessException {
        Set<Object> met = Collections.newSetFromMap(new IdentityHashMap<>());
        Deque<Object> next = new ArrayDeque<>();
        next.add(first);
        while (!next.isEmpty()) {
            Object object = next.remove();
            if (met.add(object)) {
                List<Object> values = valuesIn(object);
                objects++;
                elements += values.size();
                for (Object value : values) {
                    if (value != null && !(value instanceof Number) && !(value instanceof Boolean)) {
                        next.add(value);
                    }
                }
            }
        }
    }

    private static List<Object> valuesIn(Object object) throws IllegalAccessException {
        List<Object> values = new ArrayList<>();
        if (object.getClass().isArray()) {
            for (int i = 0; i < Array.getLength(object); i++) {
                values.add(Array.get(object, i));
            }
            return values;
        }
        for (Field field : object.getClass().getDeclaredFields()) {
            if (!Modifier.isStatic(field.getModifiers())) {
                field.setAccessible(true);
                values.add(field.get(object));
            }
        }
        return values;
    }
}
