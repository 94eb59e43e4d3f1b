import java.io.IOException;
import java.nio.file.Files;
import java.nio.file.Path;
import java.util.Set;
import java.util.TreeSet;
import java.util.function.IntFunction;
import java.util.regex.Matcher;
import java.util.regex.Pattern;

/**
 * Each argument of each promise, as DOC.md lists them: a number just below its least value, at it, at its greatest
 * one and just above it, a number of a thing when there are none, one and the most of it, and each letter there is.
 * What is refused must change nothing. An argument of the document that has no test here fails.
 */
public final class BoundsTest {
    private static final Set<String> TOLD = new TreeSet<>();
    /** One festival is used for 512 calls at most. */
    private static final int LETTERS_OF_ONE = 256;

    private interface Made {
        Juryreel make();
    }

    private interface Asked {
        Object ask(Juryreel f, int number);
    }

    private interface Spelled {
        Object ask(Juryreel f, char letter);
    }

    public static void main(String[] args) throws IOException {
        films();
        readings();
        sections();
        choosing();
        screensAndPrints();
        keys();
        shows();
        partsOfShows();
        changes();
        passes();
        juries();
        ballots();
        rights();
        archive();
        allOfTheDocument();
        Check.end();
    }

    private static void number(String argument, int least, int greatest, Made made, Asked asked, Object atLeast, Object atGreatest) {
        TOLD.add(argument);
        for (int number : new int[] {Integer.MIN_VALUE, least - 1, greatest + 1, Integer.MAX_VALUE}) {
            Juryreel f = made.make();
            Check.illegal(argument + " " + number, f, () -> asked.ask(f, number));
        }
        Check.same(argument + " " + least, Check.answer(() -> asked.ask(made.make(), least)), atLeast);
        Check.same(argument + " " + greatest, Check.answer(() -> asked.ask(made.make(), greatest)), atGreatest);
    }

    /** A thing of which there are none, one and the most. */
    private static void index(String argument, int most, IntFunction<Juryreel> made, Asked asked, IntFunction<Object> within) {
        TOLD.add(argument);
        for (int many : new int[] {0, 1, most}) {
            for (int number : new int[] {Integer.MIN_VALUE, -1, many, Integer.MAX_VALUE}) {
                Juryreel f = made.apply(many);
                Check.outside(argument + " " + number + " of " + many, f, () -> asked.ask(f, number));
            }
            for (int i = 0; i < many; i++) {
                int number = i;
                Juryreel f = made.apply(many);
                Check.same(argument + " " + number + " of " + many, Check.answer(() -> asked.ask(f, number)), within.apply(number));
            }
        }
    }

    /** Each char there is: those listed answer what is due, and all others are refused and change nothing. */
    private static void letters(String argument, String listed, Made made, Spelled spelled, Object... due) {
        TOLD.add(argument);
        for (int i = 0; i < listed.length(); i++) {
            char letter = listed.charAt(i);
            Check.same(argument + " " + letter, Check.answer(() -> spelled.ask(made.make(), letter)), due[i]);
        }
        for (int i = 0; i <= Character.MAX_VALUE; i += LETTERS_OF_ONE) {
            othersChangeNothing(argument, listed, i, made.make(), spelled);
        }
    }

    private static void othersChangeNothing(String argument, String listed, int first, Juryreel f, Spelled spelled) {
        String before = Held.of(f);
        int taken = 0;
        for (int i = first; i < first + LETTERS_OF_ONE; i++) {
            char letter = (char) i;
            if (listed.indexOf(letter) < 0 && !Check.answer(() -> spelled.ask(f, letter)).equals("IllegalArgumentException")) {
                taken++;
                System.out.println(argument + " is taken by its number: " + i);
            }
        }
        Check.same(argument + " from " + first + " on is refused", taken, 0);
        Check.same(argument + " from " + first + " on changes nothing", Held.of(f).equals(before), true);
    }

    private static void films() {
        letters("film.form", "fsd", Juryreel::new, (f, letter) -> f.film(letter, 10, 0), 0, 0, 0);
        number("film.minutes", 1, 300, Juryreel::new, (f, n) -> f.film('f', n, 0), 0, 0);
        number("film.land", 0, 9, Juryreel::new, (f, n) -> f.film('f', 10, n), 0, 0);
        number("reader.land", 0, 9, Juryreel::new, (f, n) -> f.reader(n), 0, 0);
        index("rival.film", 20, Stage::withFilms, (f, n) -> f.rival(n, 'a'), n -> 'l');
        letters("rival.where", "alt", () -> Stage.withFilms(1), (f, letter) -> f.rival(0, letter), 'l', 't', '-');
    }

    private static Juryreel withReaders(int films, int readers) {
        Juryreel f = Stage.withFilms(films);
        for (int i = 0; i < readers; i++) {
            f.reader(9);
        }
        return f;
    }

    private static Juryreel withDealt(int films, int readers) {
        Juryreel f = withReaders(films, readers);
        for (int i = 0; i < films && readers > 0; i++) {
            f.deal(i, readers);
        }
        return f;
    }

    private static Juryreel withScores(int films, int readers) {
        return films == 0 || readers == 0 ? withReaders(films, readers) : Stage.withRead(films, readers);
    }

    private static void readings() {
        index("deal.film", 20, n -> withReaders(n, 1), (f, n) -> f.deal(n, 1), n -> 1);
        number("deal.many", 1, 8, () -> withReaders(1, 8), (f, n) -> f.deal(0, n), 1, 8);
        index("isDealt.film", 20, n -> withDealt(n, 1), (f, n) -> f.isDealt(n, 0), n -> true);
        index("isDealt.reader", 8, n -> withDealt(1, n), (f, n) -> f.isDealt(0, n), n -> true);
        index("read.film", 20, n -> withDealt(n, 1), (f, n) -> f.read(n, 0, 50), n -> 1);
        index("read.reader", 8, n -> withDealt(1, n), (f, n) -> f.read(0, n, 50), n -> 1);
        number("read.score", 0, 100, () -> withDealt(1, 1), (f, n) -> f.read(0, 0, n), 1, 1);
        index("even.film", 20, n -> withScores(n, 1), (f, n) -> f.even(n, 0), n -> 50);
        index("even.reader", 8, n -> withScores(1, n), (f, n) -> f.even(0, n), n -> 50);
        index("score.film", 20, n -> withScores(n, 1), (f, n) -> f.score(n), n -> 50);
        index("isInQuarrel.film", 20, n -> withScores(n, 2), (f, n) -> f.isInQuarrel(n), n -> false);
    }

    private static void sections() {
        number("section.quota", 1, 9, Juryreel::new, (f, n) -> f.section(n, 1, 0, '-', '-'), 0, 0);
        number("section.budget", 1, 2000, Juryreel::new, (f, n) -> f.section(1, n, 0, '-', '-'), 0, 0);
        number("section.least", 0, 100, Juryreel::new, (f, n) -> f.section(1, 1, n, '-', '-'), 0, 0);
        letters("section.form", "fsd-", Juryreel::new, (f, letter) -> f.section(1, 1, 0, letter, '-'), 0, 0, 0, 0);
        letters("section.premiere", "wlt-", Juryreel::new, (f, letter) -> f.section(1, 1, 0, '-', letter), 0, 0, 0, 0);
        index("choose.section", 5, Stage::withSectionsOnly, (f, n) -> f.choose(n), n -> 0);
        index("minutes.section", 5, Stage::withSectionsOnly, (f, n) -> f.minutes(n), n -> 0);
        index("plan.section", 5, Stage::withSectionsOnly, (f, n) -> f.plan(n), n -> 0);
    }

    private static Juryreel withPromised(int films) {
        return films == 0 ? Stage.withSectionsOnly(3) : Stage.withChosenFor(films, 'w');
    }

    private static void choosing() {
        index("sectionOf.film", 20, BoundsTest::withPromised, (f, n) -> f.sectionOf(n), n -> n / 9);
        index("giveUp.film", 20, BoundsTest::withPromised, (f, n) -> f.giveUp(n), n -> 'w');
        index("isBroken.film", 20, BoundsTest::withPromised, (f, n) -> f.isBroken(n), n -> false);
        index("withdraw.film", 20, BoundsTest::withPromised, (f, n) -> f.withdraw(n), n -> 0);
    }

    private static Juryreel withReels(int films, int screens) {
        Juryreel f = Stage.addScreens(withPromised(films), screens);
        for (int i = 0; i < films; i++) {
            f.print(i, 'r', 0);
        }
        return f;
    }

    private static void screensAndPrints() {
        number("screen.seats", 1, 9, Juryreel::new, (f, n) -> f.screen(n, true), 0, 0);
        index("print.film", 20, Stage::withFilms, (f, n) -> f.print(n, 'r', 0), n -> false);
        letters("print.kind", "rd", () -> Stage.withFilms(1), (f, letter) -> f.print(0, letter, 0), false, false);
        number("print.hour", 0, 49, () -> Stage.withFilms(1), (f, n) -> f.print(0, 'r', n), false, false);
        index("canShow.film", 20, n -> withReels(n, 1), (f, n) -> f.canShow(n, 0, 0), n -> true);
        index("canShow.screen", 4, n -> withReels(1, n), (f, n) -> f.canShow(0, n, 0), n -> true);
        number("canShow.hour", 0, 49, () -> withReels(1, 1), (f, n) -> f.canShow(0, 0, n), true, true);
        hasGear();
    }

    private static void hasGear() {
        TOLD.add("screen.hasGear");
        Juryreel f = Stage.withFilms(1);
        f.print(0, 'r', 0);
        f.screen(1, false);
        f.screen(1, true);
        Check.same("screen.hasGear false", f.canShow(0, 0, 0), false);
        Check.same("screen.hasGear true", f.canShow(0, 1, 0), true);
    }

    private static void keys() {
        index("key.film", 20, n -> withReels(n, 1), (f, n) -> f.key(n, 0, 0, 0), n -> 1);
        index("key.screen", 4, n -> withReels(1, n), (f, n) -> f.key(0, n, 0, 0), n -> 1);
        Made made = () -> withReels(1, 1);
        number("key.from", 0, 49, made, (f, n) -> f.key(0, 0, n, 49), 1, 1);
        number("key.from", 0, 20, made, (f, n) -> f.key(0, 0, n, 20), 1, 1);
        number("key.to", 0, 49, made, (f, n) -> f.key(0, 0, 0, n), 1, 1);
        number("key.to", 20, 49, made, (f, n) -> f.key(0, 0, 20, n), 1, 1);
        number("key.from", 0, 49, made, (f, n) -> f.key(0, 0, n, n), 1, 1);
    }

    private static Juryreel withShowsAndPasses(int shows, int passes) {
        Juryreel f = Stage.withShows(shows);
        for (int i = 0; i < passes; i++) {
            f.pass(0);
        }
        return f;
    }

    private static void shows() {
        index("show.film", 20, n -> withReels(n, 1), (f, n) -> f.show(n, 0, 0), n -> 0);
        index("show.screen", 4, n -> withReels(1, n), (f, n) -> f.show(0, n, 0), n -> 0);
        number("show.hour", 0, 49, () -> withReels(1, 1), (f, n) -> f.show(0, 0, n), 0, 0);
        index("of.show", 60, Stage::withShows, (f, n) -> f.of(n, 'h'), n -> 1 + n % 30);
        index("state.show", 60, Stage::withShows, (f, n) -> f.state(n), n -> 't');
        index("open.show", 60, Stage::withShows, (f, n) -> f.open(n), n -> 0);
        index("join.show", 60, n -> withShowsAndPasses(n, 1), (f, n) -> f.join(0, n), n -> 1);
        index("hasSeat.show", 60, n -> withShowsAndPasses(n, 1), (f, n) -> f.hasSeat(0, n), n -> false);
    }

    private static Juryreel withEachScreenTaken(int screens) {
        Juryreel f = Stage.addScreens(Stage.withSections(10, 10, 10, 10), screens);
        for (int i = 0; i < screens; i++) {
            f.show(i, i, 7);
        }
        return f;
    }

    private static Juryreel withFirstAndLastShow() {
        Juryreel f = withReels(1, 1);
        f.show(0, 0, 49);
        f.show(0, 0, 0);
        return f;
    }

    private static Juryreel withLongShow() {
        Juryreel f = Stage.addScreens(Stage.withChosen(10, 10, 10, 200), 2);
        f.show(3, 1, 8);
        return f;
    }

    private static void partsOfShows() {
        letters("of.what", "fshl", BoundsTest::withLongShow, (f, letter) -> f.of(0, letter), 3, 1, 8, 2);
        index("at.screen", 4, BoundsTest::withEachScreenTaken, (f, n) -> f.at(n, 7), n -> n);
        number("at.hour", 0, 49, BoundsTest::withFirstAndLastShow, (f, n) -> f.at(0, n), 1, 0);
        number("go.hours", 1, 50, Juryreel::new, (f, n) -> f.go(n), 1, 50);
    }

    private static Juryreel withReelAt(int hour) {
        Juryreel f = Stage.withFilms(1);
        f.print(0, 'r', hour);
        return f;
    }

    private static void changes() {
        number("storm.day", 0, 9, Juryreel::new, (f, n) -> f.storm(n), 0, 0);
        index("late.film", 20, n -> withReels(n, 0), (f, n) -> f.late(n, 1), n -> 0);
        number("late.hour", 1, 49, () -> withReelAt(0), (f, n) -> f.late(0, n), 0, 0);
        number("late.hour", 11, 49, () -> withReelAt(10), (f, n) -> f.late(0, n), 0, 0);
        number("late.hour", 49, 49, () -> withReelAt(48), (f, n) -> f.late(0, n), 0, 0);
    }

    private static void passes() {
        number("pass.rank", 0, 3, Juryreel::new, (f, n) -> f.pass(n), 0, 0);
        index("join.pass", 16, n -> withShowsAndPasses(1, n), (f, n) -> f.join(n, 0), n -> 1);
        index("hasSeat.pass", 16, n -> withShowsAndPasses(1, n), (f, n) -> f.hasSeat(n, 0), n -> false);
    }

    /** So many sections with a juror each, of whom that of section 0 can see show 0. */
    private static Juryreel withJuries(int sections) {
        Juryreel f = Stage.withSectionsOnly(sections);
        if (sections > 0) {
            Stage.addScreens(f, 1).reader(9);
            Stage.addFilm(f, 0, 10, 0);
            f.choose(0);
            f.show(0, 0, 0);
        }
        for (int i = 0; i < sections; i++) {
            f.juror(i, 9);
        }
        return f;
    }

    private static Juryreel withBallots(int sections) {
        Juryreel f = withJuries(sections);
        if (sections > 0) {
            f.see(0, 0, 0);
            f.type(0);
            f.rank(0, 0);
            f.type(0);
        }
        return f;
    }

    private static IntFunction<Object> inFirst(Object due, String elsewhere) {
        return n -> n == 0 ? due : elsewhere;
    }

    private static Juryreel withShowsSeen(int shows) {
        Juryreel f = Stage.withShows(shows);
        f.juror(0, 9);
        f.go(1);
        return f;
    }

    private static void juries() {
        index("juror.section", 5, Stage::withSectionsOnly, (f, n) -> f.juror(n, 0), n -> 0);
        number("juror.land", 0, 9, () -> Stage.withSectionsOnly(1), (f, n) -> f.juror(0, n), 0, 0);
        index("rule.section", 5, Stage::withSectionsOnly, (f, n) -> f.rule(n, 'b'), n -> 'm');
        letters("rule.rule", "mbcr", () -> Stage.withSectionsOnly(1), (f, letter) -> f.rule(0, letter), 'm', 'm', 'm', 'm');
        index("see.section", 5, BoundsTest::withJuries, (f, n) -> f.see(n, 0, 0), inFirst(1, "UnsupportedOperationException"));
        index("see.juror", 5, Stage::withJurors, (f, n) -> f.see(0, n, 0), n -> 1);
        index("see.show", 60, BoundsTest::withShowsSeen, (f, n) -> f.see(0, 0, n), inFirst(1, "UnsupportedOperationException"));
    }

    private static Juryreel withJurorsWhoSaw(int many) {
        Juryreel f = Stage.withJurors(many);
        for (int i = 0; i < many; i++) {
            f.see(0, i, 0);
        }
        f.type(0);
        return f;
    }

    private static void ballots() {
        index("type.film", 20, Stage::withFilms, (f, n) -> f.type(n), n -> 1);
        index("rank.section", 5, BoundsTest::withBallots, (f, n) -> f.rank(n, 0), inFirst(1, "UnsupportedOperationException"));
        index("rank.juror", 5, BoundsTest::withJurorsWhoSaw, (f, n) -> f.rank(0, n), n -> 1);
        index("winner.section", 5, BoundsTest::withBallots, (f, n) -> f.winner(n), inFirst(0, "NoSuchElementException"));
        index("award.section", 5, BoundsTest::withBallots, (f, n) -> f.award(n), inFirst(0, "NoSuchElementException"));
    }

    private static Juryreel withSold(int films) {
        Juryreel f = Stage.withFilms(films);
        for (int i = 0; i < films; i++) {
            f.sell(i, 5, 0, 99, i % 10);
        }
        return f;
    }

    private static Juryreel withSoldInAllLands() {
        Juryreel f = Stage.withFilms(1);
        for (int i = 0; i < 10; i++) {
            f.sell(0, i, 0, 99, i);
        }
        return f;
    }

    private static void rights() {
        Made made = () -> Stage.withFilms(1);
        index("sell.film", 20, Stage::withFilms, (f, n) -> f.sell(n, 0, 0, 0, 0), n -> 1);
        number("sell.land", 0, 9, made, (f, n) -> f.sell(0, n, 0, 0, 0), 1, 1);
        number("sell.from", 0, 99, made, (f, n) -> f.sell(0, 0, n, 99, 0), 1, 1);
        number("sell.from", 0, 30, made, (f, n) -> f.sell(0, 0, n, 30, 0), 1, 1);
        number("sell.to", 0, 99, made, (f, n) -> f.sell(0, 0, 0, n, 0), 1, 1);
        number("sell.to", 30, 99, made, (f, n) -> f.sell(0, 0, 30, n, 0), 1, 1);
        number("sell.from", 0, 99, made, (f, n) -> f.sell(0, 0, n, n, 0), 1, 1);
        number("sell.buyer", 0, 9, made, (f, n) -> f.sell(0, 0, 0, 0, n), 1, 1);
        index("owner.film", 20, BoundsTest::withSold, (f, n) -> f.owner(n, 5, 0), n -> n % 10);
        number("owner.land", 0, 9, BoundsTest::withSoldInAllLands, (f, n) -> f.owner(0, n, 0), 0, 9);
        number("owner.month", 0, 99, BoundsTest::withSoldInAllLands, (f, n) -> f.owner(0, 7, n), 7, 7);
    }

    private static Juryreel withLines(int many) {
        Juryreel f = Stage.withFilms(20);
        for (int i = 0; i < many; i++) {
            f.sell(i % 20, i / 20, 0, 0, 0);
        }
        return f;
    }

    /** An index that is out of range is no IndexOutOfBoundsException here. */
    private static void archive() {
        TOLD.add("line.index");
        TOLD.add("line.isFilm");
        for (int many : new int[] {0, 1, 20, 40}) {
            Juryreel f = withLines(many);
            for (int number : new int[] {Integer.MIN_VALUE, -1, many, 399, 400, 401, Integer.MAX_VALUE}) {
                Check.missing("line.index " + number + " of " + many, f, () -> f.line(number, true));
                Check.missing("line.index " + number + " of " + many + ", letter", f, () -> f.line(number, false));
            }
            for (int i = 0; i < many; i++) {
                Check.same("line.index " + i + " of " + many, f.line(i, true), (many - 1 - i) % 20);
                Check.same("line.index " + i + " of " + many + ", letter", f.line(i, false), (int) 'd');
            }
        }
    }

    private static void allOfTheDocument() throws IOException {
        Matcher line = Pattern.compile("(?m)^(?:## Promise \\d+: (\\w+)|- `(\\w+)`: .*)$").matcher(Files.readString(Path.of("../shared/DOC.md")));
        String promise = "";
        int arguments = 0;
        while (line.find()) {
            if (line.group(1) != null) {
                promise = line.group(1);
            } else {
                arguments++;
                Check.same(promise + "." + line.group(2) + " has a test", TOLD.contains(promise + "." + line.group(2)), true);
            }
        }
        Check.same("arguments of the document", arguments, TOLD.size());
    }
}
