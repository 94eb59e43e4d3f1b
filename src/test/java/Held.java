import java.lang.reflect.Array;
import java.lang.reflect.Field;
import java.lang.reflect.Modifier;
import java.util.HashMap;
import java.util.Map;
import java.util.Set;

/** What a festival holds, read from its private fields, so that looking costs no call and leaves nothing out. */
final class Held {
    /** Rows that a call writes anew before it reads them; they tell nothing to the next call. */
    private static final Set<String> SCRATCH = Set.of("order", "weights", "found", "foundCount", "count");
    private static final Map<Class<?>, Field[]> FIELDS = new HashMap<>();

    private Held() {
    }

    static String of(Juryreel festival) {
        StringBuilder text = new StringBuilder();
        tell(festival, text);
        return text.toString();
    }

    private static void tell(Object held, StringBuilder text) {
        if (held.getClass().isArray()) {
            for (int i = 0; i < Array.getLength(held); i++) {
                tell(Array.get(held, i), text);
            }
        } else if (held.getClass().getPackageName().startsWith("java")) {
            text.append(held).append(' ');
        } else {
            tellFields(held, text);
        }
    }

    private static void tellFields(Object held, StringBuilder text) {
        for (Field field : FIELDS.computeIfAbsent(held.getClass(), Held::open)) {
            if (!Modifier.isStatic(field.getModifiers()) && !SCRATCH.contains(field.getName())) {
                text.append('\n').append(field.getName()).append(' ');
                try {
                    tell(field.get(held), text);
                } catch (IllegalAccessException e) {
                    throw new IllegalStateException(e);
                }
            }
        }
    }

    private static Field[] open(Class<?> type) {
        Field[] fields = type.getDeclaredFields();
        for (Field field : fields) {
            field.setAccessible(true);
        }
        return fields;
    }
}
