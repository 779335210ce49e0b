import java.lang.reflect.Array;
import java.lang.reflect.Field;
import java.lang.reflect.Modifier;
import java.util.ArrayDeque;
import java.util.ArrayList;
import java.util.Collections;
import java.util.IdentityHashMap;
import java.util.List;
import java.util.Set;

/** What memory an object of the class holds. */
final class Held {
    private Held() {
    }

    /** All objects and arrays, by which they are. */
    static Set<Object> by(TermForge x) {
        Set<Object> found = Collections.newSetFromMap(new IdentityHashMap<>());
        ArrayDeque<Object> open = new ArrayDeque<>();
        found.add(x);
        open.add(x);
        while (!open.isEmpty()) {
            for (Object next : directly(open.remove())) {
                if (next != null && found.add(next)) {
                    open.add(next);
                }
            }
        }
        return found;
    }

    /** How many fields and elements all of them have. */
    static long elements(TermForge x) {
        long sum = 0;
        for (Object held : by(x)) {
            sum += held.getClass().isArray() ? Array.getLength(held) : fields(held).size();
        }
        return sum;
    }

    private static List<Object> directly(Object owner) {
        List<Object> held = new ArrayList<>();
        if (owner instanceof Object[] array) {
            Collections.addAll(held, array);
        } else if (!owner.getClass().isArray()) {
            for (Field field : fields(owner)) {
                if (!field.getType().isPrimitive()) {
                    held.add(valueOf(field, owner));
                }
            }
        }
        return held;
    }

    private static List<Field> fields(Object owner) {
        List<Field> fields = new ArrayList<>();
        for (Field field : owner.getClass().getDeclaredFields()) {
            if (!Modifier.isStatic(field.getModifiers())) {
                fields.add(field);
            }
        }
        return fields;
    }

    private static Object valueOf(Field field, Object owner) {
        try {
            field.setAccessible(true);
            return field.get(owner);
        } catch (IllegalAccessException e) {
            throw new IllegalStateException(e);
        }
    }
}
