import java.lang.reflect.InvocationTargetException;
import java.lang.reflect.Method;
import java.util.ArrayList;
import java.util.HashMap;
import java.util.List;
import java.util.Map;
import java.util.Random;

/**
 * Runs of up to 512 calls, with arguments by chance from seeds that are always the same, on the program and on the
 * model: each answer is compared, and what a call throws must be among what the document says it throws.
 */
public final class RandomRunsTest {
    private static final int RUNS = Integer.getInteger("runs", 600);
    private static final int CALLS = 512;
    /** What runs of chance seldom come to; the tests by promises have it. */
    private static final List<String> RARE = List.of("late IllegalStateException", "storm IllegalStateException",
        "key IllegalStateException", "sell IllegalStateException", "type IllegalStateException");
    private static final Map<String, Method> FACE = new HashMap<>();
    private static final Map<String, Integer> REACHED = new HashMap<>();

    private final Juryreel real = new Juryreel();
    private final Model model = new Model();
    private final Random random;
    private final int wildness;
    private final int kind;
    private final StringBuilder told = new StringBuilder();
    private final Map<String, Integer> counts = new HashMap<>();
    private final List<Integer> lands = new ArrayList<>();
    private int calls = 0;
    private boolean differs = false;

    private RandomRunsTest(int seed) {
        random = new Random(seed);
        kind = seed % 3;
        wildness = kind == 0 ? 10 + seed % 50 : 200;
    }

    public static void main(String[] args) {
        for (Method method : Juryreel.class.getDeclaredMethods()) {
            if (java.lang.reflect.Modifier.isPublic(method.getModifiers())) {
                FACE.put(method.getName(), method);
            }
        }
        for (int seed = 0; seed < RUNS; seed++) {
            new RandomRunsTest(seed).run(seed);
        }
        for (String name : FACE.keySet()) {
            for (String end : ends(name)) {
                Check.same("reached " + end, REACHED.getOrDefault(end, 0) > 0 || RARE.contains(end), true);
            }
        }
        if (args.length > 0) {
            new java.util.TreeMap<>(REACHED).forEach((end, many) -> System.out.println(end + " " + many));
        }
        Check.end();
    }

    /** All that a call can end with. */
    private static List<String> ends(String name) {
        List<String> all = new ArrayList<>();
        all.add(name);
        for (Class<?> type : FACE.get(name).getExceptionTypes()) {
            all.add(name + " " + type.getSimpleName());
        }
        return all;
    }

    private void run(int seed) {
        if (kind == 0) {
            begin();
        } else if (kind == 1) {
            beginForTheGrid();
        } else {
            beginForJuries();
        }
        while (calls < CALLS && !differs) {
            step();
        }
        Check.same("run " + seed + (differs ? told : ""), differs, false);
    }

    private Object call(String name, Object... arguments) {
        if (calls >= CALLS || differs) {
            return -1;
        }
        calls++;
        Object got = answer(FACE.get(name), real, arguments);
        Object due = answer(modelOf(FACE.get(name)), model, arguments);
        told.append('\n').append(name).append(java.util.Arrays.toString(arguments)).append(" = ").append(got);
        String thrown = got instanceof String ? " " + got : "";
        REACHED.merge(name + thrown, 1, Integer::sum);
        if (!got.equals(due) || !ends(name).contains(name + thrown)) {
            differs = true;
            told.append(", due is ").append(due);
        }
        if (got instanceof Integer && name.equals("film")) {
            lands.add((Integer) arguments[2]);
        }
        if (got instanceof Integer && "film reader section screen pass".contains(name)) {
            counts.put(name, (Integer) got + 1);
        }
        return got;
    }

    /** Asks the model, so that the program gets no more calls than a run may have. */
    private Object ask(String name, Object... arguments) {
        return answer(modelOf(FACE.get(name)), model, arguments);
    }

    private static Method modelOf(Method method) {
        try {
            return Model.class.getDeclaredMethod(method.getName(), method.getParameterTypes());
        } catch (NoSuchMethodException e) {
            throw new IllegalStateException(e);
        }
    }

    private static Object answer(Method method, Object on, Object[] arguments) {
        try {
            return method.invoke(on, arguments);
        } catch (InvocationTargetException e) {
            return e.getCause().getClass().getSimpleName();
        } catch (IllegalAccessException e) {
            throw new IllegalStateException(e);
        }
    }

    /** A number from a to b, and now and then one beside them. */
    private int number(int a, int b) {
        if (random.nextInt(wildness) == 0) {
            int[] wild = {a - 1, b + 1, Integer.MIN_VALUE, Integer.MAX_VALUE, -1, 0, 50};
            return wild[random.nextInt(wild.length)];
        }
        return b < a ? 0 : a + random.nextInt(b - a + 1);
    }

    private int one(String kind) {
        return number(0, counts.getOrDefault(kind, 0) - 1);
    }

    private char letter(String letters) {
        if (random.nextInt(wildness) == 0) {
            return "xwfsdltnog-mbcra".charAt(random.nextInt(16));
        }
        return letters.charAt(random.nextInt(letters.length()));
    }

    private void begin() {
        int films = 3 + random.nextInt(18);
        int readers = 1 + random.nextInt(8);
        for (int i = 0; i < readers; i++) {
            call("reader", number(5, 9));
        }
        for (int i = 0; i < films; i++) {
            call("film", letter("fsd"), random.nextInt(3) == 0 ? number(145, 300) : number(1, 155), number(0, 9));
            call("deal", i, 1 + random.nextInt(Math.min(2, readers)));
            readAll(i);
        }
        for (int i = 0; i <= random.nextInt(4); i++) {
            call("screen", number(1, 9), random.nextBoolean());
        }
        for (int i = 0; i < films; i++) {
            call("print", i, letter("rrd"), number(0, random.nextInt(3) == 0 ? 49 : 5));
        }
        for (int i = 0; i <= random.nextInt(3); i++) {
            call("section", number(4, 9), number(300, 2000), number(0, 40), letter("-----fsd"), letter("wlt---"));
            call("choose", i);
        }
        for (int i = 0; i < 4; i++) {
            call("juror", one("section"), number(0, 9));
            call("pass", number(0, 3));
        }
    }

    private void addFilms(int many, int sections) {
        call("reader", 9);
        for (int i = 0; i < many; i++) {
            call("film", 'f', random.nextInt(3) == 0 ? 200 : 10 + random.nextInt(3), random.nextInt(4));
            call("deal", i, 1);
            call("read", i, 0, 50);
            call("print", i, random.nextInt(6) == 0 ? 'd' : 'r', random.nextInt(3) == 0 ? random.nextInt(20) : 0);
        }
        for (int i = 0; i < sections; i++) {
            call("section", 2 + random.nextInt(8), 2000, 0, '-', random.nextInt(4) == 0 ? 'w' : '-');
            call("choose", i);
        }
    }

    private void beginForTheGrid() {
        addFilms(6 + random.nextInt(14), 2 + random.nextInt(4));
        for (int i = 0; i < 2 + random.nextInt(3); i++) {
            call("screen", 1 + random.nextInt(3), i < 2 || random.nextBoolean());
        }
        for (int i = 0; i < 6 + random.nextInt(11); i++) {
            call("pass", random.nextInt(4));
        }
        for (int i = 0; i < counts.get("film"); i++) {
            call("key", i, number(0, 3), random.nextInt(20), 20 + random.nextInt(30));
        }
    }

    private void beginForJuries() {
        addFilms(2 + random.nextInt(6), 1);
        call("screen", 3, true);
        for (int i = 0; i < 5; i++) {
            call("juror", 0, random.nextInt(6));
        }
        for (int i = 0; i < counts.get("film"); i++) {
            call("print", i, 'r', 0);
            call("show", i, 0, model.now());
            for (int j = 0; j < 5; j++) {
                call("see", 0, j, shows() - 1);
            }
            call("go", i % 2 == 0 ? 2 : 3);
        }
    }

    private void readAll(int film) {
        for (int i = 0; i < counts.getOrDefault("reader", 0); i++) {
            if (Boolean.TRUE.equals(ask("isDealt", film, i))) {
                call("read", film, i, random.nextInt(4) == 0 ? number(0, 100) : number(40, 60));
            }
        }
    }

    private void step() {
        int chance = random.nextInt(100);
        int[][] bounds = {{10, 22, 32, 50, 62, 80}, {2, 6, 12, 55, 85, 90}, {2, 8, 9, 14, 15, 92}};
        int[] bound = bounds[kind];
        if (chance < bound[0]) {
            stepOfFilms();
        } else if (chance < bound[1]) {
            stepOfSections();
        } else if (chance < bound[2]) {
            stepOfPrints();
        } else if (chance < bound[3]) {
            stepOfShows();
        } else if (chance < bound[4]) {
            stepOfPasses();
        } else if (chance < bound[5]) {
            stepOfJuries();
        } else {
            stepOfQuestions();
        }
    }

    private void stepOfFilms() {
        switch (random.nextInt(5)) {
            case 0: call("film", letter("fsd"), number(1, 300), number(0, 9)); break;
            case 1: call("reader", number(0, 9)); break;
            case 2: call("deal", one("film"), number(1, random.nextInt(4) == 0 ? 8 : 2)); break;
            case 3: call("read", one("film"), one("reader"), number(0, 100)); break;
            default: readAll(one("film")); break;
        }
    }

    private void stepOfSections() {
        switch (random.nextInt(9)) {
            case 0: call("section", number(1, 9), number(1, 2000), number(0, 100), letter("fsd-"), letter("wlt-")); break;
            case 1: call("rival", one("film"), letter("alt")); break;
            case 2: call("giveUp", one("film")); break;
            case 3: call("isBroken", one("film")); break;
            case 4: call("withdraw", random.nextInt(3) == 0 ? one("film") : -1); break;
            case 5: call("sell", one("film"), number(0, 2), number(0, 40), number(30, 99), number(0, 9)); break;
            case 6: call("sell", one("film"), number(0, 9), number(0, 9), number(9, 19), number(0, 9)); break;
            default: call("choose", one("section")); break;
        }
    }

    private void stepOfPrints() {
        switch (random.nextInt(6)) {
            case 0: call("screen", number(1, 9), random.nextBoolean()); break;
            case 1: call("print", one("film"), letter("rd"), number(0, 49)); break;
            case 2: call("late", one("film"), number(0, 49)); break;
            case 3: call("storm", random.nextInt(3) == 0 ? number(0, 9) : number(0, 9) * 2); break;
            default: call("key", one("film"), one("screen"), number(0, 20), number(15, 49)); break;
        }
    }

    private void stepOfShows() {
        switch (random.nextInt(16)) {
            case 0: call("plan", one("section")); break;
            case 1: call("go", random.nextInt(20) == 0 ? number(1, 50) : number(1, 2)); break;
            case 2: call("go", 1); break;
            case 3: call("choose", one("section")); break;
            case 4: call("plan", one("section")); break;
            default: call("show", one("film"), one("screen"), number(model.now(), 49)); break;
        }
    }

    private int shows() {
        int many = 0;
        while (ask("state", many) instanceof Character) {
            many++;
        }
        return many;
    }

    /** A show, rather one of this state. */
    private int show(char state) {
        int many = shows();
        int asked = number(0, many - 1);
        for (int i = 0; i < many && asked >= 0 && asked < many; i++) {
            if (model.state((asked + i) % many) == state) {
                return (asked + i) % many;
            }
        }
        return asked;
    }

    private void stepOfPasses() {
        switch (random.nextInt(8)) {
            case 0: call("pass", number(0, 3)); break;
            case 1: call("open", show('n')); break;
            case 2: call("open", show('t')); break;
            case 3: call("hasSeat", one("pass"), number(0, shows() - 1)); break;
            default: call("join", one("pass"), show('t')); break;
        }
    }

    private void stepOfJuries() {
        switch (random.nextInt(10)) {
            case 0: call("juror", one("section"), number(0, 9)); break;
            case 1: call("rule", one("section"), letter("mbcr")); break;
            case 2: call("type", one("film")); break;
            case 3: call("wipe"); break;
            case 4: call("rank", one("section"), number(0, 4)); break;
            case 5: call("award", one("section")); break;
            case 6: vote(one("section"), number(0, 4)); break;
            case 7: call("winner", one("section")); break;
            default: seeTogether(show('n')); break;
        }
    }

    private void seeTogether(int show) {
        Object film = ask("of", show, 'f');
        int section = one("section");
        if (film instanceof Integer && ask("sectionOf", film) instanceof Integer) {
            section = model.sectionOf((Integer) film);
        }
        for (int i = 0; i < 5; i++) {
            call("see", section, random.nextInt(10) == 0 ? number(0, 4) : i, show);
        }
    }

    /** Types the films of a section in some order, mostly without those of one land, and ranks. */
    private void vote(int section, int juror) {
        List<Integer> ballot = new ArrayList<>();
        for (int i = 0; i < counts.getOrDefault("film", 0); i++) {
            if (Integer.valueOf(section).equals(ask("sectionOf", i))) {
                ballot.add(i);
            }
        }
        java.util.Collections.shuffle(ballot, random);
        int land = random.nextInt(6);
        if (random.nextInt(4) != 0) {
            ballot.removeIf(film -> lands.get(film) == land);
        }
        call("wipe");
        for (int film : ballot) {
            call("type", film);
        }
        for (int i = 0; i < 5; i++) {
            call("rank", section, i == 4 ? juror : random.nextInt(5));
        }
        for (char rule : "mbcr".toCharArray()) {
            call("rule", section, rule);
            call("winner", section);
        }
    }

    private void stepOfQuestions() {
        switch (random.nextInt(16)) {
            case 0: call("isDealt", one("film"), one("reader")); break;
            case 1: call("even", one("film"), one("reader")); break;
            case 2: call("score", one("film")); break;
            case 3: call("isInQuarrel", one("film")); break;
            case 4: call("sectionOf", one("film")); break;
            case 5: call("minutes", one("section")); break;
            case 6: call("canShow", one("film"), one("screen"), number(0, 49)); break;
            case 7: call("of", number(0, shows() - 1), letter("fshl")); break;
            case 8: call("state", number(0, shows() - 1)); break;
            case 9: call("at", one("screen"), number(0, 49)); break;
            case 10: call("owner", one("film"), number(0, 2), number(0, 99)); break;
            case 11: call("line", number(0, 40), random.nextBoolean()); break;
            case 12: call("now"); call("isSound"); break;
            case 13: call("shownShare"); break;
            case 14: call("meanScore"); break;
            default: call("checksum"); break;
        }
    }
}
