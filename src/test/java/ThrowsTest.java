import java.io.IOException;
import java.nio.file.Files;
import java.nio.file.Path;
import java.util.ArrayList;
import java.util.List;
import java.util.NoSuchElementException;
import java.util.Set;
import java.util.TreeSet;
import java.util.regex.Matcher;
import java.util.regex.Pattern;

/**
 * Each "Throws" row of each promise, with nothing changed after it, and for each two rows of a promise a call for
 * which both apply, of which the one that is listed first is thrown. A row or two rows of the document that have no
 * test here fail.
 */
public final class ThrowsTest {
    private static final Class<?> OUT = IndexOutOfBoundsException.class;
    private static final Class<?> BAD = IllegalArgumentException.class;
    private static final Class<?> NOT = UnsupportedOperationException.class;
    private static final Class<?> FULL = IllegalStateException.class;
    private static final Class<?> NONE = NoSuchElementException.class;
    private static final Class<?> MATH = ArithmeticException.class;
    private static final Set<String> ROWS = new TreeSet<>();
    private static final Set<String> PAIRS = new TreeSet<>();

    public static void main(String[] args) throws IOException {
        films();
        readers();
        deals();
        reads();
        scores();
        sections();
        sectionsOfFilms();
        screens();
        prints();
        keys();
        shows();
        showsThatCannotBeSet();
        plans();
        partsOfShows();
        hours();
        storms();
        lates();
        withdrawals();
        passes();
        joins();
        opens();
        jurors();
        sees();
        types();
        ranks();
        winners();
        awards();
        sells();
        owners();
        sums();
        allOfTheDocument();
        Check.end();
    }

    private static void row(String promise, Class<?> due, String why, Juryreel f, Check.Call call) {
        ROWS.add(promise + " " + due.getSimpleName());
        Check.raises(promise + ": " + why, f, due, call);
    }

    /** The second row applies too, for the call that differs only by what the first one is about throws by it. */
    private static void both(String promise, Class<?> first, Class<?> second, Juryreel f, Check.Call call, Check.Call mended) {
        PAIRS.add(promise + " " + first.getSimpleName() + " " + second.getSimpleName());
        row(promise, first, first.getSimpleName() + " before " + second.getSimpleName(), f, call);
        row(promise, second, second.getSimpleName() + " alone", f, mended);
    }

    /** No call is such that both apply. */
    private static void never(String promise, Class<?> first, Class<?> second) {
        PAIRS.add(promise + " " + first.getSimpleName() + " " + second.getSimpleName());
    }

    private static void films() {
        Juryreel f = new Juryreel();
        row("film", BAD, "no such form", f, () -> f.film('-', 10, 0));
        row("film", BAD, "minutes", f, () -> f.film('f', 0, 0));
        row("film", BAD, "land", f, () -> f.film('f', 10, 10));
        Juryreel full = Stage.withFilms(20);
        row("film", FULL, "there are 20", full, () -> full.film('f', 10, 0));
        both("film", BAD, FULL, full, () -> full.film('x', 10, 0), () -> full.film('s', 10, 0));
        both("film", BAD, FULL, full, () -> full.film('f', 301, 0), () -> full.film('f', 300, 0));
        both("film", BAD, FULL, full, () -> full.film('f', 10, -1), () -> full.film('f', 10, 9));
    }

    private static Juryreel withReaders(int films, int readers) {
        Juryreel f = Stage.withFilms(films);
        for (int i = 0; i < readers; i++) {
            f.reader(9);
        }
        return f;
    }

    private static void readers() {
        Juryreel f = new Juryreel();
        row("reader", BAD, "land", f, () -> f.reader(10));
        Juryreel full = withReaders(0, 8);
        row("reader", FULL, "there are 8", full, () -> full.reader(0));
        both("reader", BAD, FULL, full, () -> full.reader(-1), () -> full.reader(0));
    }

    private static void deals() {
        Juryreel f = Stage.withFilms(1);
        row("deal", OUT, "no such film", f, () -> f.deal(1, 1));
        row("deal", BAD, "out of range", f, () -> f.deal(0, 9));
        row("deal", NOT, "no readers", f, () -> f.deal(0, 1));
        both("deal", OUT, BAD, f, () -> f.deal(1, 0), () -> f.deal(0, 0));
        both("deal", OUT, NOT, f, () -> f.deal(-1, 1), () -> f.deal(0, 1));
        both("deal", BAD, NOT, f, () -> f.deal(0, 9), () -> f.deal(0, 8));
        f.reader(0);
        row("deal", NOT, "one with a conflict", f, () -> f.deal(0, 1));
        f.reader(1);
        f.reader(2);
        row("deal", NOT, "two of three only", f, () -> f.deal(0, 3));
        f.deal(0, 1);
        row("deal", NOT, "one is left only", f, () -> f.deal(0, 2));
        f.deal(0, 1);
        row("deal", NOT, "none is left", f, () -> f.deal(0, 1));
        row("isDealt", OUT, "no such film", f, () -> f.isDealt(1, 0));
        row("isDealt", OUT, "no such reader", f, () -> f.isDealt(0, 3));
    }

    private static void reads() {
        Juryreel f = withReaders(1, 2);
        row("read", OUT, "no such film", f, () -> f.read(1, 0, 50));
        row("read", OUT, "no such reader", f, () -> f.read(0, 2, 50));
        row("read", NOT, "not dealt", f, () -> f.read(0, 0, 50));
        both("read", OUT, BAD, f, () -> f.read(1, 0, 101), () -> f.read(0, 0, 101));
        both("read", OUT, BAD, f, () -> f.read(0, 2, -1), () -> f.read(0, 1, -1));
        both("read", OUT, NOT, f, () -> f.read(-1, 0, 50), () -> f.read(0, 0, 50));
        both("read", OUT, NOT, f, () -> f.read(0, -1, 50), () -> f.read(0, 0, 50));
        both("read", BAD, NOT, f, () -> f.read(0, 0, 101), () -> f.read(0, 0, 100));
        f.deal(0, 1);
        row("read", BAD, "out of range", f, () -> f.read(0, 0, 101));
        row("read", BAD, "below the range", f, () -> f.read(0, 0, -1));
        row("read", NOT, "dealt to the other one", f, () -> f.read(0, 1, 50));
        f.read(0, 0, 0);
        row("read", NOT, "told one", f, () -> f.read(0, 0, 0));
        both("read", BAD, NOT, f, () -> f.read(0, 0, -1), () -> f.read(0, 0, 0));
    }

    private static void scores() {
        Juryreel f = withReaders(1, 1);
        row("even", OUT, "no such film", f, () -> f.even(1, 0));
        row("even", OUT, "no such reader", f, () -> f.even(0, 1));
        row("even", NONE, "not dealt", f, () -> f.even(0, 0));
        row("score", OUT, "no such film", f, () -> f.score(1));
        row("score", NONE, "not dealt", f, () -> f.score(0));
        row("isInQuarrel", OUT, "no such film", f, () -> f.isInQuarrel(1));
        f.deal(0, 1);
        row("even", NONE, "dealt only", f, () -> f.even(0, 0));
        row("score", NONE, "dealt only", f, () -> f.score(0));
        both("even", OUT, NONE, f, () -> f.even(-1, 0), () -> f.even(0, 0));
        both("even", OUT, NONE, f, () -> f.even(0, -1), () -> f.even(0, 0));
        both("score", OUT, NONE, f, () -> f.score(-1), () -> f.score(0));
        row("rival", OUT, "no such film", f, () -> f.rival(1, 'a'));
        row("rival", BAD, "no such place", f, () -> f.rival(0, 'w'));
        both("rival", OUT, BAD, f, () -> f.rival(1, '-'), () -> f.rival(0, '-'));
    }

    private static void sections() {
        Juryreel f = new Juryreel();
        row("section", BAD, "quota", f, () -> f.section(10, 1, 0, '-', '-'));
        row("section", BAD, "budget", f, () -> f.section(1, 2001, 0, '-', '-'));
        row("section", BAD, "least", f, () -> f.section(1, 1, 101, '-', '-'));
        row("section", BAD, "form", f, () -> f.section(1, 1, 0, 'r', '-'));
        row("section", BAD, "premiere", f, () -> f.section(1, 1, 0, '-', 'a'));
        Juryreel full = Stage.withSectionsOnly(5);
        row("section", FULL, "there are 5", full, () -> full.section(1, 1, 0, '-', '-'));
        both("section", BAD, FULL, full, () -> full.section(0, 1, 0, '-', '-'), () -> full.section(9, 1, 0, '-', '-'));
        both("section", BAD, FULL, full, () -> full.section(1, 0, 0, '-', '-'), () -> full.section(1, 2000, 0, '-', '-'));
        both("section", BAD, FULL, full, () -> full.section(1, 1, -1, '-', '-'), () -> full.section(1, 1, 100, '-', '-'));
        both("section", BAD, FULL, full, () -> full.section(1, 1, 0, 'x', '-'), () -> full.section(1, 1, 0, 'd', '-'));
        both("section", BAD, FULL, full, () -> full.section(1, 1, 0, '-', 'x'), () -> full.section(1, 1, 0, '-', 'w'));
        row("choose", OUT, "no such section", full, () -> full.choose(5));
        row("minutes", OUT, "no such section", full, () -> full.minutes(5));
    }

    private static void sectionsOfFilms() {
        Juryreel f = Stage.withChosenFor(1, 'l');
        f.film('f', 10, 0);
        row("sectionOf", OUT, "no such film", f, () -> f.sectionOf(2));
        both("sectionOf", OUT, NONE, f, () -> f.sectionOf(-1), () -> f.sectionOf(1));
        row("giveUp", OUT, "no such film", f, () -> f.giveUp(2));
        both("giveUp", OUT, NOT, f, () -> f.giveUp(-1), () -> f.giveUp(1));
        row("isBroken", OUT, "no such film", f, () -> f.isBroken(2));
        f.giveUp(0);
        row("giveUp", NOT, "given up", f, () -> f.giveUp(0));
        f.withdraw(0);
        row("giveUp", NOT, "withdrawn", f, () -> f.giveUp(0));
        row("sectionOf", NONE, "withdrawn", f, () -> f.sectionOf(0));
        Juryreel none = Stage.withChosenFor(1, '-');
        row("giveUp", NOT, "none by the section", none, () -> none.giveUp(0));
        Juryreel gone = Stage.withChosenFor(1, 'w');
        gone.withdraw(0);
        row("giveUp", NOT, "gone by withdrawal", gone, () -> gone.giveUp(0));
    }

    private static void screens() {
        Juryreel f = new Juryreel();
        row("screen", BAD, "seats", f, () -> f.screen(10, true));
        Juryreel full = Stage.addScreens(new Juryreel(), 4);
        row("screen", FULL, "there are 4", full, () -> full.screen(1, true));
        both("screen", BAD, FULL, full, () -> full.screen(0, true), () -> full.screen(9, true));
    }

    private static void prints() {
        Juryreel f = Stage.addScreens(Stage.withFilms(1), 1);
        row("print", OUT, "no such film", f, () -> f.print(1, 'r', 0));
        row("print", BAD, "no such kind", f, () -> f.print(0, 'f', 0));
        row("print", BAD, "hour", f, () -> f.print(0, 'r', 50));
        both("print", OUT, BAD, f, () -> f.print(1, 'x', 0), () -> f.print(0, 'x', 0));
        both("print", OUT, BAD, f, () -> f.print(-1, 'r', -1), () -> f.print(0, 'r', -1));
        row("canShow", OUT, "no such film", f, () -> f.canShow(1, 0, 0));
        row("canShow", OUT, "no such screen", f, () -> f.canShow(0, 1, 0));
        row("canShow", BAD, "hour", f, () -> f.canShow(0, 0, 50));
        both("canShow", OUT, BAD, f, () -> f.canShow(1, 0, -1), () -> f.canShow(0, 0, -1));
        both("canShow", OUT, BAD, f, () -> f.canShow(0, 1, 50), () -> f.canShow(0, 0, 50));
    }

    private static void keys() {
        Juryreel f = Stage.addScreens(Stage.withFilms(1), 1);
        row("key", OUT, "no such film", f, () -> f.key(1, 0, 0, 0));
        row("key", OUT, "no such screen", f, () -> f.key(0, 1, 0, 0));
        row("key", BAD, "from", f, () -> f.key(0, 0, -1, 0));
        row("key", BAD, "to", f, () -> f.key(0, 0, 0, 50));
        row("key", BAD, "to is less", f, () -> f.key(0, 0, 1, 0));
        for (int i = 0; i < 60; i++) {
            f.key(0, 0, i % 50, 49);
        }
        row("key", FULL, "there are 60", f, () -> f.key(0, 0, 0, 0));
        both("key", OUT, BAD, f, () -> f.key(1, 0, 50, 50), () -> f.key(0, 0, 50, 50));
        both("key", OUT, BAD, f, () -> f.key(0, 1, 9, 8), () -> f.key(0, 0, 9, 8));
        both("key", OUT, FULL, f, () -> f.key(1, 0, 8, 9), () -> f.key(0, 0, 8, 9));
        both("key", OUT, FULL, f, () -> f.key(0, -1, 8, 9), () -> f.key(0, 0, 8, 9));
        both("key", BAD, FULL, f, () -> f.key(0, 0, 9, 8), () -> f.key(0, 0, 8, 8));
    }

    private static void shows() {
        Juryreel f = Stage.withShows(60);
        Stage.addFilm(f, 2, 10, 2);
        row("show", OUT, "no such film", f, () -> f.show(3, 0, 40));
        row("show", OUT, "no such screen", f, () -> f.show(0, 2, 40));
        row("show", BAD, "hour", f, () -> f.show(0, 0, 50));
        row("show", NOT, "in no section", f, () -> f.show(2, 0, 40));
        row("show", FULL, "there are 60", f, () -> f.show(0, 0, 40));
        both("show", OUT, BAD, f, () -> f.show(3, 0, 50), () -> f.show(2, 0, 50));
        both("show", OUT, BAD, f, () -> f.show(0, 2, -1), () -> f.show(0, 1, -1));
        both("show", OUT, NOT, f, () -> f.show(2, 2, 40), () -> f.show(2, 1, 40));
        both("show", OUT, NOT, f, () -> f.show(-1, 0, 1), () -> f.show(0, 0, 1));
        both("show", OUT, FULL, f, () -> f.show(0, 2, 40), () -> f.show(0, 1, 40));
        both("show", OUT, FULL, f, () -> f.show(3, 0, 40), () -> f.show(1, 0, 40));
        both("show", BAD, NOT, f, () -> f.show(2, 0, 50), () -> f.show(2, 0, 49));
        both("show", BAD, FULL, f, () -> f.show(0, 0, -1), () -> f.show(0, 0, 0));
        both("show", NOT, FULL, f, () -> f.show(2, 0, 31), () -> f.show(0, 0, 31));
        both("show", NOT, FULL, f, () -> f.show(0, 0, 30), () -> f.show(0, 0, 31));
    }

    /** Each of the conditions under "It is set if". */
    private static void showsThatCannotBeSet() {
        Juryreel f = Stage.addScreens(Stage.withChosen(10, 200, 10), 2);
        f.screen(1, false);
        f.show(1, 0, 21);
        f.storm(3);
        f.go(2);
        row("show", NOT, "before the present hour", f, () -> f.show(0, 0, 1));
        row("show", NOT, "a storm on the day", f, () -> f.show(0, 0, 17));
        row("show", NOT, "its second hour on another day", f, () -> f.show(1, 0, 9));
        row("show", NOT, "the screen is not free", f, () -> f.show(1, 0, 20));
        row("show", NOT, "no gear", f, () -> f.show(0, 2, 5));
        row("show", NOT, "a show of it elsewhere", f, () -> f.show(1, 1, 22));
        row("show", NOT, "a show of its section elsewhere", f, () -> f.show(0, 1, 22));
        f.print(2, 'd', 6);
        f.key(2, 0, 0, 7);
        row("show", NOT, "the print has not come", f, () -> f.show(2, 0, 5));
        row("show", NOT, "no key at the hour", f, () -> f.show(2, 0, 8));
        row("show", NOT, "no key of the screen", f, () -> f.show(2, 1, 6));
        f.withdraw(0);
        row("show", NOT, "withdrawn", f, () -> f.show(0, 0, 5));
        Juryreel bare = Stage.addScreens(Stage.withChosenFor(1, '-'), 1);
        row("show", NOT, "no print", bare, () -> bare.show(0, 0, 5));
    }

    private static void plans() {
        Juryreel f = Stage.withShows(60);
        Stage.addFilm(f, 2, 10, 2);
        f.section(1, 10, 0, '-', '-');
        f.choose(2);
        row("plan", OUT, "no such section", f, () -> f.plan(3));
        row("plan", FULL, "there would be 61", f, () -> f.plan(2));
        both("plan", OUT, FULL, f, () -> f.plan(-1), () -> f.plan(2));
    }

    private static void partsOfShows() {
        Juryreel f = Stage.withShows(1);
        row("of", OUT, "no such show", f, () -> f.of(1, 'f'));
        row("of", BAD, "no such thing", f, () -> f.of(0, 'x'));
        both("of", OUT, BAD, f, () -> f.of(1, 'x'), () -> f.of(0, 'x'));
        row("state", OUT, "no such show", f, () -> f.state(1));
        row("at", OUT, "no such screen", f, () -> f.at(2, 1));
        row("at", BAD, "hour", f, () -> f.at(0, 50));
        row("at", NONE, "none is there", f, () -> f.at(0, 2));
        both("at", OUT, BAD, f, () -> f.at(2, 50), () -> f.at(1, 50));
        both("at", OUT, NONE, f, () -> f.at(-1, 0), () -> f.at(0, 0));
        both("at", BAD, NONE, f, () -> f.at(0, 50), () -> f.at(0, 49));
        f.withdraw(0);
        row("at", NONE, "it is gone", f, () -> f.at(0, 1));
    }

    private static void hours() {
        Juryreel f = new Juryreel();
        row("go", BAD, "below", f, () -> f.go(0));
        row("go", BAD, "above", f, () -> f.go(51));
        f.go(1);
        row("go", FULL, "above the end", f, () -> f.go(50));
        both("go", BAD, FULL, f, () -> f.go(51), () -> f.go(50));
        both("go", BAD, FULL, f, () -> f.go(Integer.MAX_VALUE), () -> f.go(50));
    }

    private static void storms() {
        Juryreel f = Stage.withShows(60);
        row("storm", BAD, "below", f, () -> f.storm(-1));
        row("storm", BAD, "above", f, () -> f.storm(10));
        row("storm", FULL, "one more than 60", f, () -> f.storm(6));
        for (int i = 7; i < 10; i++) {
            f.storm(i);
        }
        row("storm", NOT, "there was one", f, () -> f.storm(9));
        both("storm", BAD, NOT, f, () -> f.storm(10), () -> f.storm(9));
        both("storm", BAD, FULL, f, () -> f.storm(-1), () -> f.storm(0));
        // Nothing is set on the day of a storm, so that none is to come there that a second storm would take.
        never("storm", NOT, FULL);
    }

    private static void lates() {
        Juryreel f = Stage.withShows(60);
        f.film('f', 10, 2);
        row("late", OUT, "no such film", f, () -> f.late(3, 1));
        row("late", BAD, "above 49", f, () -> f.late(0, 50));
        row("late", BAD, "not behind", f, () -> f.late(0, 0));
        row("late", BAD, "before", f, () -> f.late(0, -1));
        row("late", NOT, "no print", f, () -> f.late(2, 5));
        row("late", NOT, "no print, so that any hour is behind", f, () -> f.late(2, 0));
        row("late", FULL, "one more than 60", f, () -> f.late(0, 2));
        both("late", OUT, BAD, f, () -> f.late(3, 50), () -> f.late(2, 50));
        both("late", OUT, NOT, f, () -> f.late(-1, 5), () -> f.late(2, 5));
        both("late", OUT, FULL, f, () -> f.late(3, 5), () -> f.late(1, 5));
        both("late", BAD, NOT, f, () -> f.late(2, 50), () -> f.late(2, 49));
        both("late", BAD, FULL, f, () -> f.late(0, 50), () -> f.late(0, 49));
        // A film that has no print has no show, for a print is never taken back.
        never("late", NOT, FULL);
        Juryreel told = Stage.withFilms(1);
        told.print(0, 'r', 20);
        row("late", BAD, "just the hour told", told, () -> told.late(0, 20));
        told.late(0, 30);
        row("late", BAD, "just the hour told late", told, () -> told.late(0, 30));
    }

    private static void withdrawals() {
        Juryreel f = Stage.withFilms(1);
        row("withdraw", OUT, "no such film", f, () -> f.withdraw(1));
        f.withdraw(0);
        row("withdraw", NOT, "withdrawn", f, () -> f.withdraw(0));
        both("withdraw", OUT, NOT, f, () -> f.withdraw(-1), () -> f.withdraw(0));
    }

    private static void passes() {
        Juryreel f = new Juryreel();
        row("pass", BAD, "below", f, () -> f.pass(-1));
        row("pass", BAD, "above", f, () -> f.pass(4));
        for (int i = 0; i < 16; i++) {
            f.pass(0);
        }
        row("pass", FULL, "there are 16", f, () -> f.pass(0));
        both("pass", BAD, FULL, f, () -> f.pass(4), () -> f.pass(3));
    }

    private static void joins() {
        Juryreel f = Stage.withShows(6);
        f.pass(0);
        f.pass(0);
        row("join", OUT, "no such pass", f, () -> f.join(2, 0));
        row("join", OUT, "no such show", f, () -> f.join(0, 6));
        f.join(0, 4);
        row("join", NOT, "waits for it", f, () -> f.join(0, 4));
        both("join", OUT, NOT, f, () -> f.join(-1, 4), () -> f.join(0, 4));
        f.open(4);
        row("join", NOT, "was opened", f, () -> f.join(1, 4));
        row("join", NOT, "was opened, and waits", f, () -> f.join(0, 4));
        f.storm(1);
        row("join", NOT, "gone", f, () -> f.join(1, 5));
        f.go(2);
        row("join", NOT, "over", f, () -> f.join(1, 0));
        row("join", NOT, "now", f, () -> f.join(1, 1));
        both("join", OUT, NOT, f, () -> f.join(0, -1), () -> f.join(0, 0));
        row("hasSeat", OUT, "no such pass", f, () -> f.hasSeat(2, 0));
        row("hasSeat", OUT, "no such show", f, () -> f.hasSeat(0, 99));
    }

    private static void opens() {
        Juryreel f = Stage.addScreens(Stage.withChosen(200, 10), 1);
        f.show(0, 0, 0);
        f.show(1, 0, 2);
        f.show(1, 0, 3);
        f.show(1, 0, 5);
        row("open", OUT, "no such show", f, () -> f.open(4));
        f.open(3);
        row("open", NOT, "was opened", f, () -> f.open(3));
        f.go(1);
        Check.same("open: in its second hour it is n", f.state(0), 'n');
        row("open", NOT, "its first hour is before", f, () -> f.open(0));
        f.go(2);
        row("open", NOT, "over, of two hours", f, () -> f.open(0));
        row("open", NOT, "over, of one", f, () -> f.open(1));
        f.open(2);
        row("open", NOT, "now, and was opened", f, () -> f.open(2));
        both("open", OUT, NOT, f, () -> f.open(-1), () -> f.open(2));
        Juryreel gone = Stage.withShows(2);
        gone.withdraw(0);
        row("open", NOT, "gone", gone, () -> gone.open(1));
    }

    private static void jurors() {
        Juryreel f = Stage.withSectionsOnly(2);
        row("juror", OUT, "no such section", f, () -> f.juror(2, 0));
        row("juror", BAD, "land", f, () -> f.juror(0, 10));
        for (int i = 0; i < 5; i++) {
            f.juror(0, 9);
            f.juror(1, 9);
        }
        row("juror", FULL, "there are 5", f, () -> f.juror(0, 0));
        both("juror", OUT, BAD, f, () -> f.juror(2, -1), () -> f.juror(1, -1));
        both("juror", OUT, FULL, f, () -> f.juror(2, 9), () -> f.juror(1, 9));
        both("juror", BAD, FULL, f, () -> f.juror(1, 10), () -> f.juror(1, 0));
        row("rule", OUT, "no such section", f, () -> f.rule(2, 'b'));
        row("rule", BAD, "no such rule", f, () -> f.rule(0, 'x'));
        both("rule", OUT, BAD, f, () -> f.rule(-1, '-'), () -> f.rule(0, '-'));
    }

    private static void sees() {
        Juryreel f = Stage.withShows(2);
        f.show(1, 1, 2);
        f.juror(0, 9);
        f.juror(1, 9);
        row("see", OUT, "no such section", f, () -> f.see(2, 0, 0));
        row("see", OUT, "no such juror", f, () -> f.see(0, 1, 0));
        row("see", OUT, "no such show", f, () -> f.see(0, 0, 3));
        row("see", NOT, "to come", f, () -> f.see(0, 0, 0));
        both("see", OUT, NOT, f, () -> f.see(-1, 0, 0), () -> f.see(0, 0, 0));
        both("see", OUT, NOT, f, () -> f.see(0, -1, 0), () -> f.see(0, 0, 0));
        both("see", OUT, NOT, f, () -> f.see(0, 0, -1), () -> f.see(0, 0, 0));
        f.go(2);
        row("see", NOT, "over", f, () -> f.see(0, 0, 0));
        row("see", NOT, "of another section", f, () -> f.see(0, 0, 2));
        row("see", NOT, "of another section, told by the other", f, () -> f.see(1, 0, 1));
        Juryreel gone = Stage.withShows(3);
        gone.juror(0, 9);
        gone.withdraw(0);
        gone.go(1);
        row("see", NOT, "gone", gone, () -> gone.see(0, 0, 0));
        seesAnother();
    }

    private static void seesAnother() {
        Juryreel f = Stage.addScreens(Stage.withChosen(10, 10), 2);
        f.juror(0, 9);
        f.show(0, 0, 0);
        f.see(0, 0, 0);
        f.withdraw(0);
        f.show(1, 1, 0);
        row("see", NOT, "saw another in this hour", f, () -> f.see(0, 0, 1));
        row("see", NOT, "the film of one now is withdrawn", f, () -> f.see(0, 0, 0));
    }

    private static void types() {
        Juryreel f = Stage.withFilms(1);
        row("type", OUT, "no such film", f, () -> f.type(1));
        for (int i = 0; i < 9; i++) {
            f.type(0);
        }
        row("type", FULL, "there are 9", f, () -> f.type(0));
        both("type", OUT, FULL, f, () -> f.type(1), () -> f.type(0));
    }

    /** Films 0 to 2 in section 0, of lands 0 to 2, seen by juror 0; juror 1, of land 1, saw none; film 3 in none. */
    private static Juryreel withBallotToCome() {
        Juryreel f = Stage.addScreens(Stage.withChosen(10, 10, 10), 1);
        f.film('f', 10, 0);
        f.juror(0, 0);
        f.juror(0, 1);
        f.plan(0);
        for (int i = 0; i < 3; i++) {
            f.see(0, 0, i);
            f.go(1);
        }
        return f;
    }

    private static void rankOf(String why, Juryreel f, int juror, int... films) {
        f.wipe();
        for (int film : films) {
            f.type(film);
        }
        row("rank", NOT, why, f, () -> f.rank(0, juror));
    }

    private static void ranks() {
        Juryreel f = withBallotToCome();
        row("rank", OUT, "no such section", f, () -> f.rank(1, 0));
        row("rank", OUT, "no such juror", f, () -> f.rank(0, 2));
        rankOf("none", f, 0);
        rankOf("one is missing", f, 0, 1);
        rankOf("one twice", f, 0, 1, 1);
        rankOf("one twice with the other", f, 0, 1, 2, 2);
        rankOf("of the own land", f, 0, 0, 1, 2);
        rankOf("of the own land in place of one", f, 0, 0, 1);
        rankOf("of no section", f, 0, 1, 2, 3);
        rankOf("of no section in place of one", f, 0, 1, 3);
        rankOf("none is seen", f, 1, 0, 2);
        both("rank", OUT, NOT, f, () -> f.rank(-1, 1), () -> f.rank(0, 1));
        both("rank", OUT, NOT, f, () -> f.rank(0, -1), () -> f.rank(0, 1));
        f.plan(0);
        f.see(0, 1, 3);
        rankOf("one of two is seen", f, 1, 0, 2);
        f.wipe();
        f.type(2);
        f.type(1);
        Check.same("rank: what is left", f.rank(0, 0), 1);
        Juryreel own = Stage.withJurors(0);
        own.juror(0, 0);
        own.see(0, 0, 0);
        rankOf("films of the own land alone, none typed", own, 0);
        rankOf("films of the own land alone", own, 0, 0);
        Juryreel empty = Stage.withSectionsOnly(1);
        empty.juror(0, 0);
        rankOf("a section without films", empty, 0);
    }

    private static Juryreel withBallot() {
        Juryreel f = withBallotToCome();
        f.type(2);
        f.type(1);
        f.rank(0, 0);
        return f;
    }

    private static void winners() {
        Juryreel f = withBallotToCome();
        row("winner", OUT, "no such section", f, () -> f.winner(1));
        row("winner", NONE, "no ballot", f, () -> f.winner(0));
        both("winner", OUT, NONE, f, () -> f.winner(-1), () -> f.winner(0));
        Juryreel voted = withBallot();
        voted.withdraw(1);
        voted.withdraw(2);
        for (char rule : new char[] {'m', 'b', 'c', 'r'}) {
            voted.rule(0, rule);
            row("winner", NONE, "all of the ballot are withdrawn, by " + rule, voted, () -> voted.winner(0));
            row("award", NONE, "all of the ballot are withdrawn, by " + rule, voted, () -> voted.award(0));
        }
    }

    private static void awards() {
        Juryreel f = withBallotToCome();
        row("award", OUT, "no such section", f, () -> f.award(1));
        row("award", NONE, "no winner", f, () -> f.award(0));
        both("award", OUT, NONE, f, () -> f.award(-1), () -> f.award(0));
        Juryreel given = withBallot();
        given.award(0);
        row("award", NOT, "given", given, () -> given.award(0));
        both("award", OUT, NOT, given, () -> given.award(-1), () -> given.award(0));
        given.withdraw(1);
        given.withdraw(2);
        PAIRS.add("award UnsupportedOperationException NoSuchElementException");
        row("winner", NONE, "no winner any more", given, () -> given.winner(0));
        row("award", NOT, "given, and no winner any more", given, () -> given.award(0));
        Juryreel broken = Stage.addScreens(Stage.withChosenFor(1, 'w'), 1);
        broken.print(0, 'r', 0);
        broken.juror(0, 9);
        broken.show(0, 0, 0);
        broken.see(0, 0, 0);
        broken.type(0);
        broken.rank(0, 0);
        broken.rival(0, 'a');
        row("award", NOT, "the winner's promise is broken", broken, () -> broken.award(0));
        broken.giveUp(0);
        Check.same("award: given up is not broken", broken.award(0), 0);
    }

    private static void sells() {
        Juryreel f = Stage.withFilms(2);
        f.withdraw(1);
        row("sell", OUT, "no such film", f, () -> f.sell(2, 0, 0, 0, 0));
        row("sell", BAD, "land", f, () -> f.sell(0, 10, 0, 0, 0));
        row("sell", BAD, "from", f, () -> f.sell(0, 0, -1, 0, 0));
        row("sell", BAD, "to", f, () -> f.sell(0, 0, 0, 100, 0));
        row("sell", BAD, "to is less", f, () -> f.sell(0, 0, 1, 0, 0));
        row("sell", BAD, "buyer", f, () -> f.sell(0, 0, 0, 0, 10));
        row("sell", NOT, "withdrawn", f, () -> f.sell(1, 0, 0, 0, 0));
        f.sell(0, 0, 0, 9, 0);
        row("sell", NOT, "overlap", f, () -> f.sell(0, 0, 9, 9, 1));
        both("sell", OUT, BAD, f, () -> f.sell(2, 10, 0, 0, 0), () -> f.sell(0, 10, 0, 0, 0));
        both("sell", OUT, NOT, f, () -> f.sell(2, 0, 0, 0, 0), () -> f.sell(1, 0, 0, 0, 0));
        both("sell", BAD, NOT, f, () -> f.sell(1, 0, 0, 0, -1), () -> f.sell(1, 0, 0, 0, 0));
        both("sell", BAD, NOT, f, () -> f.sell(0, 0, 9, 8, 0), () -> f.sell(0, 0, 9, 9, 0));
        for (int i = 1; i < 40; i++) {
            f.sell(0, 1 + i % 9, i, i, 0);
        }
        row("sell", FULL, "there are 40", f, () -> f.sell(0, 0, 10, 10, 0));
        both("sell", OUT, FULL, f, () -> f.sell(-1, 0, 10, 10, 0), () -> f.sell(0, 0, 10, 10, 0));
        both("sell", BAD, FULL, f, () -> f.sell(0, -1, 10, 10, 0), () -> f.sell(0, 0, 10, 10, 0));
        both("sell", NOT, FULL, f, () -> f.sell(0, 0, 9, 10, 0), () -> f.sell(0, 0, 10, 10, 0));
        both("sell", NOT, FULL, f, () -> f.sell(1, 0, 10, 10, 0), () -> f.sell(0, 0, 10, 10, 0));
    }

    private static void owners() {
        Juryreel f = Stage.withFilms(1);
        f.sell(0, 0, 1, 2, 0);
        row("owner", OUT, "no such film", f, () -> f.owner(1, 0, 1));
        row("owner", BAD, "land", f, () -> f.owner(0, 10, 1));
        row("owner", BAD, "month", f, () -> f.owner(0, 0, 100));
        row("owner", NONE, "another month", f, () -> f.owner(0, 0, 3));
        row("owner", NONE, "another land", f, () -> f.owner(0, 1, 1));
        both("owner", OUT, BAD, f, () -> f.owner(1, 10, 1), () -> f.owner(0, 10, 1));
        both("owner", OUT, NONE, f, () -> f.owner(-1, 0, 0), () -> f.owner(0, 0, 0));
        both("owner", BAD, NONE, f, () -> f.owner(0, -1, 0), () -> f.owner(0, 0, 0));
        both("owner", BAD, NONE, f, () -> f.owner(0, 0, 100), () -> f.owner(0, 0, 99));
    }

    private static void sums() {
        Juryreel f = Stage.withFilms(1);
        row("line", NONE, "no line", f, () -> f.line(0, true));
        row("line", NONE, "below", f, () -> f.line(-1, false));
        row("shownShare", MATH, "none in a section", f, f::shownShare);
        row("meanScore", MATH, "none has a score", f, f::meanScore);
        Juryreel gone = Stage.withChosen(10);
        gone.withdraw(0);
        row("shownShare", MATH, "the one is withdrawn", gone, gone::shownShare);
    }

    private static void allOfTheDocument() throws IOException {
        Matcher line = Pattern.compile("(?m)^(?:## Promise \\d+: (\\w+)|Throws `(\\w+)` if .*)$")
            .matcher(Files.readString(Path.of("../shared/DOC.md")));
        String promise = "";
        List<String> before = new ArrayList<>();
        int rows = 0;
        while (line.find()) {
            if (line.group(1) != null) {
                promise = line.group(1);
                before.clear();
            } else {
                String thrown = line.group(2);
                rows++;
                Check.same(promise + " " + thrown + " has a test", ROWS.contains(promise + " " + thrown), true);
                for (String first : before) {
                    String pair = promise + " " + first + " " + thrown;
                    Check.same(pair + " has a test", PAIRS.contains(pair), true);
                }
                before.add(thrown);
            }
        }
        Check.same("rows of the document", rows, ROWS.size());
    }
}
