import java.lang.reflect.Array;
import java.lang.reflect.Field;

/** Promise 49: isSound tells what is wrong, for which these tests change what is held inside a festival. */
public final class SoundTest {
    public static void main(String[] args) throws ReflectiveOperationException {
        screens();
        sections();
        quotas();
        seats();
        seatsOfOnePass();
        rights();
        winners();
        winnersThatDiffer();
        Check.end();
    }

    private static Object get(Object from, String name) throws ReflectiveOperationException {
        Field field = from.getClass().getDeclaredField(name);
        field.setAccessible(true);
        return field.get(from);
    }

    private static void set(Object in, String name, Object value) throws ReflectiveOperationException {
        Field field = in.getClass().getDeclaredField(name);
        field.setAccessible(true);
        field.set(in, value);
    }

    private static Object show(Juryreel f, int number) throws ReflectiveOperationException {
        return Array.get(get(get(f, "grid"), "shows"), number);
    }

    private static void due(String what, Juryreel f, boolean sound) {
        Check.same(what, f.isSound(), sound);
    }

    private static void screens() throws ReflectiveOperationException {
        Juryreel f = Stage.withSections(10, 200);
        f.screen(1, true);
        f.show(0, 0, 5);
        f.show(1, 0, 6);
        due("behind each other", f, true);
        set(show(f, 1), "first", 4);
        due("a screen shared in the second hour", f, false);
        set(show(f, 0), "cause", 's');
        due("but one is gone", f, true);
        set(show(f, 0), "cause", '-');
        set(show(f, 1), "cause", 'w');
        due("or the other is", f, true);
    }

    private static void sections() throws ReflectiveOperationException {
        Juryreel f = Stage.withChosen(10, 10);
        f.screen(1, true);
        f.screen(1, true);
        f.show(0, 0, 5);
        f.show(1, 1, 6);
        due("not in one hour", f, true);
        set(show(f, 1), "first", 5);
        due("of one section in one hour", f, false);
        set(Array.get(get(f, "films"), 1), "section", 3);
        due("of two sections", f, true);
        set(Array.get(get(f, "films"), 0), "section", -1);
        set(Array.get(get(f, "films"), 1), "section", -1);
        due("of none", f, true);
    }

    private static void quotas() throws ReflectiveOperationException {
        Juryreel f = Stage.withChosen(10, 20);
        Object section = Array.get(get(f, "sections"), 0);
        set(section, "quota", 2);
        set(section, "budget", 30);
        due("just the quota and the budget", f, true);
        set(section, "quota", 1);
        due("above the quota", f, false);
        set(section, "quota", 2);
        set(section, "budget", 29);
        due("above the budget", f, false);
    }

    private static void seats() throws ReflectiveOperationException {
        Juryreel f = Stage.withChosen(10);
        f.screen(1, true);
        f.pass(0);
        f.pass(0);
        f.show(0, 0, 5);
        f.join(0, 0);
        f.join(1, 0);
        f.open(0);
        due("one of one", f, true);
        ((boolean[]) get(show(f, 0), "isSeated"))[1] = true;
        due("two of one", f, false);
    }

    private static void seatsOfOnePass() throws ReflectiveOperationException {
        Juryreel f = Stage.withSections(10, 10);
        f.screen(1, true);
        f.screen(1, true);
        f.pass(0);
        f.show(0, 0, 5);
        f.show(1, 1, 5);
        f.join(0, 0);
        f.open(0);
        due("at one show", f, true);
        ((boolean[]) get(show(f, 1), "isSeated"))[0] = true;
        due("in two shows at once", f, false);
        set(show(f, 1), "cause", 'l');
        due("but one is gone", f, true);
        set(show(f, 1), "cause", '-');
        set(show(f, 1), "first", 6);
        due("or an hour later", f, true);
    }

    private static void rights() throws ReflectiveOperationException {
        Juryreel f = new Juryreel();
        f.film('f', 10, 0);
        f.sell(0, 0, 0, 5, 1);
        f.sell(0, 0, 6, 9, 1);
        f.sell(0, 1, 0, 9, 1);
        due("behind each other", f, true);
        ((int[]) get(get(f, "rights"), "lastMonths"))[0] = 6;
        due("months overlap", f, false);
    }

    /** Both countings read the same ballots; a mark that a film is out before its time is what only one could keep. */
    private static void winners() throws ReflectiveOperationException {
        Juryreel f = Stage.withChosen(10, 10);
        f.screen(1, true);
        f.juror(0, 9);
        f.plan(0);
        f.see(0, 0, 0);
        f.go(1);
        f.see(0, 0, 1);
        f.type(1);
        f.type(0);
        f.rank(0, 0);
        ((boolean[]) get(get(f, "count"), "isOut"))[1] = true;
        due("each counting begins anew", f, true);
        for (char rule : new char[] {'m', 'b', 'c', 'r'}) {
            f.rule(0, rule);
            due("by " + rule, f, true);
            Check.same("winner by " + rule, f.winner(0), 1);
        }
    }

    /** A film that stands on a ballot twice has points by both places, if ballots are gone through one by one. */
    private static void winnersThatDiffer() throws ReflectiveOperationException {
        Juryreel f = Stage.addScreens(Stage.withChosen(10, 10, 10), 1);
        f.juror(0, 9);
        f.juror(0, 9);
        f.plan(0);
        for (int i = 0; i < 3; i++) {
            f.see(0, 0, i);
            f.see(0, 1, i);
            f.go(1);
        }
        int[][] ballots = {{1, 2, 0}, {0, 2, 1}};
        for (int juror = 0; juror < 2; juror++) {
            for (int film : ballots[juror]) {
                f.type(film);
            }
            f.rank(0, juror);
        }
        f.rule(0, 'b');
        due("each film once", f, true);
        int[] ballot = (int[]) get(Array.get(get(Array.get(get(f, "sections"), 0), "jurors"), 0), "ballot");
        ballot[1] = 1;
        due("a film twice", f, false);
        f.rule(0, 'm');
        due("but first places are the same", f, true);
    }
}
