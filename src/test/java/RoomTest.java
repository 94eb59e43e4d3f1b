import java.io.IOException;
import java.lang.reflect.Array;
import java.lang.reflect.Field;
import java.lang.reflect.InvocationTargetException;
import java.lang.reflect.Method;
import java.lang.reflect.Modifier;
import java.nio.file.Files;
import java.nio.file.Path;
import java.util.ArrayList;
import java.util.Collections;
import java.util.Comparator;
import java.util.IdentityHashMap;
import java.util.List;
import java.util.Random;
import java.util.Set;

/**
 * The room that a festival takes: few objects, made with it, none by its calls but what is thrown; and that
 * festivals share nothing, so that the same calls give the same answers, whatever another one is told.
 */
public final class RoomTest {
    private static final int CALLS = 512;
    private static final int MOST_OBJECTS = 600;
    private static final int MOST_ELEMENTS = 8000;
    private static final List<Method> FACE = new ArrayList<>();

    private final Set<Object> objects = Collections.newSetFromMap(new IdentityHashMap<>());
    private int elements = 0;

    public static void main(String[] args) throws ReflectiveOperationException, IOException {
        for (Method method : Juryreel.class.getDeclaredMethods()) {
            if (Modifier.isPublic(method.getModifiers())) {
                FACE.add(method);
            }
        }
        FACE.sort(Comparator.comparing(Method::getName));
        keepsItsRoom();
        makesNothingInCalls();
        sameCallsSameAnswers();
        Check.end();
    }

    private static RoomTest roomOf(Juryreel festival) throws IllegalAccessException {
        RoomTest room = new RoomTest();
        room.count(festival);
        return room;
    }

    private void count(Object held) throws IllegalAccessException {
        if (held == null || !objects.add(held)) {
            return;
        }
        if (held.getClass().isArray()) {
            elements += Array.getLength(held);
            for (int i = 0; i < Array.getLength(held) && !held.getClass().getComponentType().isPrimitive(); i++) {
                count(Array.get(held, i));
            }
            return;
        }
        for (Field field : held.getClass().getDeclaredFields()) {
            if (!Modifier.isStatic(field.getModifiers())) {
                field.setAccessible(true);
                elements++;
                if (!field.getType().isPrimitive()) {
                    count(field.get(held));
                }
            }
        }
    }

    private static void keepsItsRoom() throws ReflectiveOperationException {
        for (int seed = 0; seed < 20; seed++) {
            Juryreel f = new Juryreel();
            RoomTest first = roomOf(f);
            Check.same("few objects", first.objects.size() <= MOST_OBJECTS, true);
            Check.same("few elements", first.elements <= MOST_ELEMENTS, true);
            Random random = new Random(seed);
            for (int i = 0; i < CALLS; i++) {
                tell(f, random, i);
            }
            RoomTest last = roomOf(f);
            Check.same("the objects are those of the beginning " + seed, last.objects.equals(first.objects), true);
            Check.same("no row has grown " + seed, last.elements, first.elements);
        }
    }

    /** What is made stands in a constructor, beside a field, or behind a throw. */
    private static void makesNothingInCalls() throws IOException {
        String[] kinds = {"throw new \\w+\\(\"[^\"]*\"\\);", "(private )?final [\\w\\[\\]]+ \\w+ = new .*;", "\\w+\\[i\\] = new \\w+\\(\\);"};
        int inConstructors = 0;
        for (String line : Files.readAllLines(Path.of("src/main/java/Juryreel.java"))) {
            String code = line.strip();
            if (code.matches(".*\\bnew\\b.*") && !code.startsWith("*") && !code.startsWith("/**")) {
                boolean isKnown = code.matches(kinds[0]) || code.matches(kinds[1]) || code.matches(kinds[2]);
                Check.same("made where it may be: " + code, isKnown, true);
                inConstructors += code.matches(kinds[2]) ? 1 : 0;
            }
        }
        Check.same("rows of objects are made for sections, jurors, films and shows", inConstructors, 4);
    }

    private static void sameCallsSameAnswers() throws ReflectiveOperationException {
        for (int seed = 0; seed < 20; seed++) {
            Juryreel one = new Juryreel();
            Juryreel other = new Juryreel();
            Juryreel beside = new Juryreel();
            Random first = new Random(seed);
            Random second = new Random(seed);
            Random wild = new Random(seed + 1000);
            boolean isSame = true;
            for (int i = 0; i < CALLS; i++) {
                isSame &= tell(one, first, i).equals(tell(other, second, i));
                tell(beside, wild, i);
            }
            Check.same("the same calls give the same answers " + seed, isSame, true);
            Check.same("and hold the same " + seed, Held.of(one).equals(Held.of(other)), true);
            Check.same("but not what another one holds " + seed, Held.of(one).equals(Held.of(beside)), false);
        }
    }

    /** A call by chance; the first ones add and choose, so that the later ones find something. */
    private static Object tell(Juryreel f, Random random, int number) throws ReflectiveOperationException {
        if (number < 40) {
            return begin(f, random, number);
        }
        Method method = FACE.get(random.nextInt(FACE.size()));
        while (method.getName().equals("withdraw") && random.nextInt(8) != 0) {
            method = FACE.get(random.nextInt(FACE.size()));
        }
        Object[] arguments = new Object[method.getParameterCount()];
        for (int i = 0; i < arguments.length; i++) {
            Class<?> type = method.getParameterTypes()[i];
            if (type == boolean.class) {
                arguments[i] = random.nextBoolean();
            } else if (type == char.class) {
                arguments[i] = "fsdwlt-amrbcho".charAt(random.nextInt(14));
            } else {
                arguments[i] = random.nextInt(random.nextInt(3) == 0 ? 51 : 4);
            }
        }
        try {
            return method.invoke(f, arguments);
        } catch (InvocationTargetException e) {
            return e.getCause().getClass().getSimpleName();
        }
    }

    private static Object begin(Juryreel f, Random random, int number) {
        int film = number / 4;
        switch (number < 4 ? 4 + number : number % 4) {
            case 0: return f.film("fsd".charAt(random.nextInt(3)), 1 + random.nextInt(300), random.nextInt(8));
            case 1: return Check.answer(() -> f.deal(film - 1, 1));
            case 2: return Check.answer(() -> f.read(film - 1, 0, 40 + film));
            case 3: return Check.answer(() -> f.print(film - 1, 'r', random.nextInt(5)));
            case 4: return f.reader(9);
            case 5: return f.screen(1 + random.nextInt(9), true);
            case 6: return f.section(9, 2000, 0, '-', "wlt-".charAt(random.nextInt(4)));
            default: return f.juror(0, random.nextInt(10));
        }
    }
}
