import java.lang.reflect.Field;
import java.lang.reflect.Modifier;
import java.util.ArrayList;
import java.util.Arrays;
import java.util.HashMap;
import java.util.List;
import java.util.Map;

/** All that a plan and its frames hold, as one text: what no call tells without a change is in it too. */
final class State {
    private static final List<String> ALL = List.of("plan", "frames", "openFrames");
    private static final List<String> PLAN = List.of("plan");
    private static final Map<Class<?>, List<Field>> FIELDS = new HashMap<>();

    private State() {
    }

    static String of(Simplespan x) {
        return of(x, ALL);
    }

    /** What a frame that is taken back brings again. */
    static String ofPlan(Simplespan x) {
        return of(x, PLAN);
    }

    private static String of(Simplespan x, List<String> names) {
        StringBuilder text = new StringBuilder();
        int held = 0;
        try {
            for (Field field : fieldsOf(Simplespan.class)) {
                if (names.contains(field.getName())) {
                    held++;
                    addValue(field.get(x), text.append(field.getName()).append('='));
                }
            }
        } catch (IllegalAccessException e) {
            throw new IllegalStateException("the class hides what it holds", e);
        }
        if (held != names.size()) {
            throw new IllegalStateException("the class holds its plan otherwise");
        }
        return text.toString();
    }

    private static List<Field> fieldsOf(Class<?> type) {
        return FIELDS.computeIfAbsent(type, t -> {
            List<Field> fields = new ArrayList<>();
            for (Field field : t.getDeclaredFields()) {
                if (!Modifier.isStatic(field.getModifiers())) {
                    field.setAccessible(true);
                    fields.add(field);
                }
            }
            return fields;
        });
    }

    private static void addValue(Object value, StringBuilder text) throws IllegalAccessException {
        if (value == null || value instanceof Number || value instanceof Boolean || value instanceof Character) {
            text.append(value);
        } else if (value instanceof int[]) {
            text.append(Arrays.toString((int[]) value));
        } else if (value instanceof char[]) {
            text.append(Arrays.toString((char[]) value));
        } else if (value instanceof boolean[]) {
            text.append(Arrays.toString((boolean[]) value));
        } else if (value instanceof Object[]) {
            for (Object part : (Object[]) value) {
                addValue(part, text);
            }
        } else {
            addFields(value, text);
        }
    }

    private static void addFields(Object value, StringBuilder text) throws IllegalAccessException {
        text.append('{');
        for (Field field : fieldsOf(value.getClass())) {
            addValue(field.get(value), text.append(field.getName()).append('='));
            text.append('\n');
        }
        text.append('}');
    }
}
