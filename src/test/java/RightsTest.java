import java.lang.reflect.Field;
import java.lang.reflect.Method;

/** Promises 43 to 49: rights, the archive, sums and isSound. */
public final class RightsTest {
    public static void main(String[] args) throws ReflectiveOperationException {
        sellArguments();
        sells();
        fortyDeals();
        owners();
        lines();
        fourHundredLines();
        checksums();
        shares();
        means();
        sound();
        Check.end();
    }

    private static Juryreel withFilms(int many) {
        Juryreel f = new Juryreel();
        for (int i = 0; i < many; i++) {
            f.film('f', 10, 0);
        }
        return f;
    }

    private static void sellArguments() {
        Juryreel f = withFilms(1);
        Check.outside("sell film", f, () -> f.sell(1, 10, 0, 0, 0));
        Check.outside("sell film -1", f, () -> f.sell(-1, 0, 0, 0, 0));
        Check.illegal("sell land -1", f, () -> f.sell(0, -1, 0, 0, 0));
        Check.illegal("sell land 10", f, () -> f.sell(0, 10, 0, 0, 0));
        Check.illegal("sell from -1", f, () -> f.sell(0, 0, -1, 0, 0));
        Check.illegal("sell from 100", f, () -> f.sell(0, 0, 100, 100, 0));
        Check.illegal("sell to 100", f, () -> f.sell(0, 0, 0, 100, 0));
        Check.illegal("sell to less", f, () -> f.sell(0, 0, 5, 4, 0));
        Check.illegal("sell buyer -1", f, () -> f.sell(0, 0, 0, 0, -1));
        Check.illegal("sell buyer 10", f, () -> f.sell(0, 0, 0, 0, 10));
    }

    private static void sells() {
        Juryreel f = withFilms(2);
        Check.same("first", f.sell(0, 3, 10, 20, 1), 1);
        Check.same("line", f.line(0, false), (int) 'd');
        Check.refused("same month", f, () -> f.sell(0, 3, 20, 30, 2));
        Check.refused("up to the first", f, () -> f.sell(0, 3, 0, 10, 2));
        Check.refused("within", f, () -> f.sell(0, 3, 12, 13, 2));
        Check.refused("around", f, () -> f.sell(0, 3, 0, 99, 2));
        Check.refused("by the same buyer", f, () -> f.sell(0, 3, 20, 20, 1));
        Check.same("behind", f.sell(0, 3, 21, 99, 2), 2);
        Check.same("before", f.sell(0, 3, 0, 9, 2), 3);
        Check.same("another land", f.sell(0, 4, 12, 13, 2), 4);
        Check.same("another film", f.sell(1, 3, 12, 13, 9), 5);
        Check.same("line's film", f.line(0, true), 1);
        f.withdraw(1);
        Check.refused("withdrawn", f, () -> f.sell(1, 5, 0, 1, 0));
        Check.same("what was sold stays", f.owner(1, 3, 12), 9);
    }

    private static void fortyDeals() {
        Juryreel f = withFilms(1);
        for (int i = 0; i < 40; i++) {
            Check.same("deal " + i, f.sell(0, i % 10, i, i, 0), i + 1);
        }
        Check.full("deal 41", f, () -> f.sell(0, 0, 99, 99, 0));
        Check.refused("deal 41 that overlaps", f, () -> f.sell(0, 0, 0, 0, 0));
        Check.illegal("deal 41 of no land", f, () -> f.sell(0, 10, 0, 0, 0));
    }

    private static void owners() {
        Juryreel f = withFilms(2);
        f.sell(0, 0, 5, 7, 3);
        f.sell(0, 9, 0, 99, 0);
        Check.outside("owner film", f, () -> f.owner(2, 10, 0));
        Check.outside("owner film -1", f, () -> f.owner(-1, 0, 0));
        Check.illegal("owner land -1", f, () -> f.owner(0, -1, 0));
        Check.illegal("owner land 10", f, () -> f.owner(0, 10, 0));
        Check.illegal("owner month -1", f, () -> f.owner(0, 0, -1));
        Check.illegal("owner month 100", f, () -> f.owner(0, 0, 100));
        Check.missing("before", f, () -> f.owner(0, 0, 4));
        Check.missing("behind", f, () -> f.owner(0, 0, 8));
        Check.missing("another land", f, () -> f.owner(0, 1, 6));
        Check.missing("another film", f, () -> f.owner(1, 0, 6));
        Check.same("first month", f.owner(0, 0, 5), 3);
        Check.same("last month", f.owner(0, 0, 7), 3);
        Check.same("buyer 0", f.owner(0, 9, 99), 0);
        Check.same("month 0", f.owner(0, 9, 0), 0);
    }

    private static void lines() {
        Juryreel f = Stage.withChosen(10, 20);
        f.screen(1, true);
        f.plan(0);
        f.open(1);
        f.sell(0, 0, 0, 0, 0);
        f.withdraw(0);
        String due = "x0d0o0s0s1c1c0";
        for (int i = 0; i < 7; i++) {
            Check.same("letter " + i, f.line(i, false), (int) due.charAt(2 * i));
            Check.same("film " + i, f.line(i, true), due.charAt(2 * i + 1) - '0');
        }
        Check.missing("no line", f, () -> f.line(7, true));
        Check.missing("no line -1", f, () -> f.line(-1, false));
        Check.missing("no line 400", f, () -> f.line(400, false));
        Check.missing("no line at all", f, () -> f.line(Integer.MAX_VALUE, false));
        Check.missing("no line below", f, () -> f.line(Integer.MIN_VALUE, false));
    }

    /** Calls of one object come to fewer lines than are kept, so the lines are put in by hand. */
    private static void fourHundredLines() throws ReflectiveOperationException {
        Juryreel f = new Juryreel();
        Field field = Juryreel.class.getDeclaredField("archive");
        field.setAccessible(true);
        Method add = field.getType().getDeclaredMethod("add", char.class, int.class);
        add.setAccessible(true);
        for (int i = 0; i < 400; i++) {
            add.invoke(field.get(f), 's', i);
        }
        Check.same("the oldest one", f.line(399, true), 0);
        Check.same("the latest one", f.line(0, true), 399);
        add.invoke(field.get(f), 'x', 400);
        Check.same("the oldest one goes first", f.line(399, true), 1);
        Check.same("the latest letter", f.line(0, false), (int) 'x');
        Check.same("the letter before", f.line(1, false), (int) 's');
        Check.missing("at most 400", f, () -> f.line(400, true));
        for (int i = 401; i < 1000; i++) {
            add.invoke(field.get(f), 'd', i);
        }
        Check.same("the oldest of later ones", f.line(399, true), 600);
        Check.same("the latest of later ones", f.line(0, true), 999);
    }

    private static void checksums() {
        Juryreel f = Stage.withChosen(10, 20);
        f.screen(1, true);
        f.screen(1, true);
        Check.same("at first", f.checksum(), 7L);
        f.show(1, 1, 12);
        long one = ((7L * 31 + 1) * 31 + 1 + 120) * 31 + 't';
        Check.same("one show", f.checksum(), one);
        f.show(0, 0, 0);
        Check.same("two shows", f.checksum(), ((one * 31) * 31 + 0) * 31 + 'n');
        f.storm(2);
        long gone = ((7L * 31 + 1) * 31 + 1 + 120) * 31 + 's';
        long two = ((gone * 31) * 31 + 0) * 31 + 'n';
        Check.same("one gone and set anew", f.checksum(), ((two * 31 + 1) * 31 + 0 + 10) * 31 + 't');
    }

    private static void shares() {
        Juryreel f = withFilms(2);
        Check.raises("no film in a section", f, ArithmeticException.class, f::shownShare);
        Juryreel g = Stage.withChosen(10, 20, 30);
        g.screen(1, true);
        Check.same("none shown", g.shownShare(), 0.0f);
        g.show(0, 0, 5);
        Check.same("one of three", g.shownShare(), 1.0f / 3.0f);
        g.show(0, 0, 6);
        Check.same("one of three, twice", g.shownShare(), 1.0f / 3.0f);
        g.show(1, 0, 0);
        Check.same("now counts", g.shownShare(), 2.0f / 3.0f);
        g.go(4);
        Check.same("over counts", g.shownShare(), 2.0f / 3.0f);
        g.withdraw(1);
        Check.same("one withdrawn", g.shownShare(), 0.5f);
        g.print(0, 'd', 0);
        g.storm(1);
        Check.same("one gone", g.shownShare(), 0.0f);
        g.withdraw(0);
        g.withdraw(2);
        Check.raises("none any more", g, ArithmeticException.class, g::shownShare);
    }

    private static void means() {
        Juryreel f = withFilms(4);
        f.reader(1);
        Check.raises("no score", f, ArithmeticException.class, f::meanScore);
        for (int i = 0; i < 3; i++) {
            f.deal(i, 1);
        }
        f.read(0, 0, 50);
        Check.same("one", f.meanScore(), 50.0);
        f.read(1, 0, 60);
        f.read(2, 0, 61);
        Check.same("43, 53 and 54", f.meanScore(), 150.0 / 3.0);
        f.reader(2);
        f.deal(3, 1);
        f.read(3, 1, 1);
        f.withdraw(0);
        Check.same("one withdrawn counts", f.meanScore(), 200.0 / 4.0);
        Juryreel g = withFilms(3);
        g.reader(1);
        for (int i = 0; i < 3; i++) {
            g.deal(i, 1);
            g.read(i, 0, i == 2 ? 2 : 0);
        }
        Check.same("50, 50 and 52", g.meanScore(), 152.0 / 3.0);
    }

    private static void sound() {
        Juryreel f = Stage.withChosen(10, 200, 30, 40);
        f.screen(2, true);
        f.screen(1, true);
        f.juror(0, 9);
        f.pass(0);
        f.plan(0);
        for (int i = 0; i < 4; i++) {
            Check.same("sound at " + f.now(), f.isSound(), true);
            f.see(0, 0, i);
            f.go(i == 0 ? 2 : 1);
        }
        f.plan(0);
        for (int i = 0; i < 4; i++) {
            f.type(i);
        }
        f.rank(0, 0);
        f.storm(1);
        f.withdraw(0);
        f.sell(1, 1, 1, 1, 1);
        Check.same("sound after all", f.isSound(), true);
    }
}
