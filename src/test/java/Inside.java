import java.lang.reflect.Array;
import java.lang.reflect.Field;
import java.lang.reflect.Modifier;

/** All that an object holds, by reflection: what a refused call must leave as it was, be it asked for or not. */
final class Inside {
    private static final int DEEPEST = 8;

    private Inside() {
    }

    static String of(Object held) {
        StringBuilder told = new StringBuilder();
        try {
            tell(held, told, 0);
        } catch (IllegalAccessException e) {
            Check.report("cannot look inside: " + e);
        }
        return told.toString();
    }

    private static void tell(Object held, StringBuilder told, int depth) throws IllegalAccessException {
        if (held == null || held instanceof Number || held instanceof Boolean || held instanceof Character
                || held instanceof String) {
            told.append(held).append(' ');
        } else if (depth >= DEEPEST) {
            throw new IllegalStateException("too deep");
        } else if (held.getClass().isArray()) {
            told.append('[');
            for (int i = 0; i < Array.getLength(held); i++) {
                tell(Array.get(held, i), told, depth + 1);
            }
            told.append(']');
        } else {
            tellFields(held, told, depth);
        }
    }

    private static void tellFields(Object held, StringBuilder told, int depth) throws IllegalAccessException {
        told.append('{');
        for (Field field : held.getClass().getDeclaredFields()) {
            if (!Modifier.isStatic(field.getModifiers())) {
                field.setAccessible(true);
                told.append(field.getName()).append('=');
                tell(field.get(held), told, depth + 1);
            }
        }
        told.append('}');
    }
}
