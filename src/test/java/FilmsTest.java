/** Promises 1 to 10: a new object, films, readers and scores. */
public final class FilmsTest {
    public static void main(String[] args) {
        newObject();
        films();
        readers();
        deals();
        dealsTheFewestFirst();
        reads();
        evens();
        scores();
        quarrels();
        rivals();
        Check.end();
    }

    private static void newObject() {
        Juryreel f = new Juryreel();
        Check.same("hour at first", f.now(), 0);
        Check.same("checksum at first", f.checksum(), 7L);
        Check.same("sound at first", f.isSound(), true);
        Check.same("nothing typed at first", f.wipe(), 0);
        Check.outside("no film at first", f, () -> f.score(0));
        Check.outside("no section at first", f, () -> f.minutes(0));
        Check.outside("no screen at first", f, () -> f.at(0, 0));
        Check.outside("no show at first", f, () -> f.state(0));
        Check.missing("no line at first", f, () -> f.line(0, true));
        Check.same("first film", f.film('f', 1, 0), 0);
        Check.same("first reader", f.reader(0), 0);
        Check.same("first section", f.section(1, 1, 0, '-', '-'), 0);
        Check.same("first screen", f.screen(1, false), 0);
        Check.same("first pass", f.pass(0), 0);
        Check.same("first juror", f.juror(0, 0), 0);
        Juryreel other = new Juryreel();
        Check.same("objects keep apart", other.film('d', 1, 0), 0);
    }

    private static void films() {
        Juryreel f = new Juryreel();
        Check.illegal("film form", f, () -> f.film('-', 10, 0));
        Check.illegal("film form great", f, () -> f.film('F', 10, 0));
        Check.illegal("film minutes 0", f, () -> f.film('f', 0, 0));
        Check.illegal("film minutes 301", f, () -> f.film('f', 301, 0));
        Check.illegal("film minutes least", f, () -> f.film('f', Integer.MIN_VALUE, 0));
        Check.illegal("film land -1", f, () -> f.film('f', 1, -1));
        Check.illegal("film land 10", f, () -> f.film('f', 1, 10));
        for (int i = 0; i < 20; i++) {
            char form = i % 3 == 0 ? 'f' : i % 3 == 1 ? 's' : 'd';
            Check.same("film " + i, f.film(form, i % 2 == 0 ? 1 : 300, i % 2 == 0 ? 0 : 9), i);
        }
        Check.full("film 21", f, () -> f.film('f', 10, 0));
        Check.illegal("film 21 of no form", f, () -> f.film('x', 10, 0));
    }

    private static void readers() {
        Juryreel f = new Juryreel();
        Check.illegal("reader -1", f, () -> f.reader(-1));
        Check.illegal("reader 10", f, () -> f.reader(10));
        for (int i = 0; i < 8; i++) {
            Check.same("reader " + i, f.reader(i == 7 ? 9 : i), i);
        }
        Check.full("reader 9", f, () -> f.reader(0));
        Check.illegal("reader 9 of no land", f, () -> f.reader(10));
    }

    private static void deals() {
        Juryreel f = new Juryreel();
        f.film('f', 10, 1);
        f.reader(1);
        f.reader(2);
        f.reader(3);
        Check.outside("deal film -1", f, () -> f.deal(-1, 0));
        Check.outside("deal film 1", f, () -> f.deal(1, 1));
        Check.illegal("deal none", f, () -> f.deal(0, 0));
        Check.illegal("deal 9", f, () -> f.deal(0, 9));
        Check.refused("deal 3, with a conflict", f, () -> f.deal(0, 3));
        Check.outside("isDealt film", f, () -> f.isDealt(1, 0));
        Check.outside("isDealt film -1", f, () -> f.isDealt(-1, 0));
        Check.outside("isDealt reader", f, () -> f.isDealt(0, 3));
        Check.outside("isDealt reader -1", f, () -> f.isDealt(0, -1));
        Check.same("not dealt", f.isDealt(0, 1), false);
        Check.same("deal 1", f.deal(0, 1), 1);
        Check.same("conflict", f.isDealt(0, 0), false);
        Check.same("lowest", f.isDealt(0, 1), true);
        Check.same("not yet", f.isDealt(0, 2), false);
        Check.refused("deal 2 more", f, () -> f.deal(0, 2));
        Check.same("deal 1 more", f.deal(0, 1), 2);
        Check.same("dealt", f.isDealt(0, 2), true);
        Check.refused("deal a third", f, () -> f.deal(0, 1));
        f.reader(4);
        Check.same("a new reader has room", f.deal(0, 1), 3);
        Juryreel all = new Juryreel();
        all.film('f', 10, 9);
        for (int i = 0; i < 8; i++) {
            all.reader(i);
        }
        Check.same("deal 8", all.deal(0, 8), 8);
    }

    private static void dealsTheFewestFirst() {
        Juryreel f = new Juryreel();
        for (int i = 0; i < 4; i++) {
            f.film('f', 10, i);
        }
        f.reader(3);
        f.reader(8);
        f.reader(9);
        f.deal(0, 1);
        f.deal(1, 1);
        Check.same("of like ones the lowest", f.isDealt(1, 1), true);
        Check.same("deal film 2 to two", f.deal(2, 2), 2);
        Check.same("fewest first", f.isDealt(2, 2), true);
        Check.same("then the lowest", f.isDealt(2, 0), true);
        Check.same("not the third", f.isDealt(2, 1), false);
        f.deal(3, 1);
        Check.same("conflict aside", f.isDealt(3, 0), false);
        Check.same("lowest of those with one", f.isDealt(3, 1), true);
    }

    private static void reads() {
        Juryreel f = new Juryreel();
        f.film('f', 10, 0);
        f.film('f', 10, 0);
        f.reader(1);
        f.reader(2);
        f.deal(0, 1);
        Check.outside("read film 2", f, () -> f.read(2, 0, 101));
        Check.outside("read film -1", f, () -> f.read(-1, 0, 5));
        Check.outside("read reader 2", f, () -> f.read(0, 2, 101));
        Check.outside("read reader -1", f, () -> f.read(0, -1, 5));
        Check.illegal("read -1", f, () -> f.read(0, 0, -1));
        Check.illegal("read 101 before not dealt", f, () -> f.read(0, 1, 101));
        Check.refused("not dealt", f, () -> f.read(0, 1, 50));
        Check.refused("not dealt of another film", f, () -> f.read(1, 0, 50));
        Check.same("read 0", f.read(0, 0, 0), 1);
        Check.refused("told", f, () -> f.read(0, 0, 50));
        f.deal(0, 1);
        Check.same("read 100", f.read(0, 1, 100), 2);
        f.deal(1, 1);
        Check.same("counted by film", f.read(1, 0, 3), 1);
    }

    private static void evens() {
        Juryreel f = new Juryreel();
        for (int i = 0; i < 3; i++) {
            f.film('f', 10, 0);
        }
        f.reader(1);
        f.reader(2);
        for (int i = 0; i < 3; i++) {
            f.deal(i, 1 + i % 2);
        }
        Check.outside("even film", f, () -> f.even(3, 0));
        Check.outside("even film -1", f, () -> f.even(-1, 0));
        Check.outside("even reader", f, () -> f.even(0, 2));
        Check.outside("even reader -1", f, () -> f.even(0, -1));
        Check.missing("dealt but not told", f, () -> f.even(0, 0));
        Check.missing("not dealt", f, () -> f.even(0, 1));
        f.read(0, 0, 0);
        Check.same("one is in the middle", f.even(0, 0), 50);
        f.read(1, 0, 99);
        Check.same("mean 49, cut", f.even(0, 0), 1);
        Check.same("mean 49, cut, above", f.even(1, 0), 100);
        Juryreel g = new Juryreel();
        for (int i = 0; i < 20; i++) {
            g.film('f', 10, 0);
        }
        g.reader(1);
        for (int i = 0; i < 20; i++) {
            g.deal(i, 1);
            g.read(i, 0, i == 0 ? 0 : 100);
        }
        Check.same("an even score below 0", g.even(0, 0), -45);
        Check.same("a score below 0", g.score(0), -45);
    }

    private static void scores() {
        Juryreel f = new Juryreel();
        f.film('f', 10, 0);
        f.film('f', 10, 0);
        f.film('f', 10, 0);
        f.reader(1);
        f.reader(2);
        f.deal(0, 2);
        f.deal(1, 2);
        f.deal(2, 2);
        Check.outside("score film", f, () -> f.score(3));
        Check.outside("score film -1", f, () -> f.score(-1));
        Check.missing("no score", f, () -> f.score(0));
        f.read(0, 0, 60);
        f.read(0, 1, 81);
        Check.same("score", f.score(0), 50);
        f.read(1, 1, 40);
        Check.same("mean of 50 and 71, cut", f.score(0), 60);
        Check.same("score of one", f.score(1), 30);
        Check.missing("still none", f, () -> f.score(2));
        cutsTowardZero();
    }

    /** Two even scores of -45 and 42 or so make a mean below 0 that is no whole number. */
    private static void cutsTowardZero() {
        Juryreel f = new Juryreel();
        for (int i = 0; i < 20; i++) {
            f.film('f', 10, 0);
        }
        f.reader(1);
        f.reader(2);
        for (int i = 0; i < 20; i++) {
            f.deal(i, 2);
            f.read(i, 0, i == 0 ? 0 : 100);
            f.read(i, 1, i == 0 ? 0 : i == 1 ? 80 : 100);
        }
        Check.same("one", f.even(0, 0), -45);
        Check.same("other", f.even(0, 1), -44);
        Check.same("cut toward 0", f.score(0), -44);
    }

    private static void quarrels() {
        Juryreel f = new Juryreel();
        for (int i = 0; i < 2; i++) {
            f.film('f', 10, 0);
        }
        f.reader(1);
        f.reader(2);
        f.deal(0, 2);
        f.deal(1, 2);
        Check.outside("quarrel film", f, () -> f.isInQuarrel(2));
        Check.outside("quarrel film -1", f, () -> f.isInQuarrel(-1));
        Check.same("no scores", f.isInQuarrel(0), false);
        f.read(0, 0, 100);
        Check.same("one score", f.isInQuarrel(0), false);
        f.read(0, 1, 0);
        Check.same("both even", f.isInQuarrel(0), false);
        f.read(1, 0, 40);
        Check.same("30 apart is none", f.isInQuarrel(0), false);
        Check.same("80 and 50", f.even(0, 0) - f.even(0, 1), 30);
        f.read(1, 1, 2);
        Check.same("31 apart is one", f.isInQuarrel(0), true);
        Check.same("20 and 51", f.isInQuarrel(1), true);
    }

    private static void rivals() {
        Juryreel f = new Juryreel();
        for (int i = 0; i < 3; i++) {
            f.film('f', 10, 0);
        }
        Check.outside("rival film", f, () -> f.rival(3, 'x'));
        Check.outside("rival film -1", f, () -> f.rival(-1, 'a'));
        Check.illegal("rival place w", f, () -> f.rival(0, 'w'));
        Check.illegal("rival place -", f, () -> f.rival(0, '-'));
        Check.same("abroad", f.rival(0, 'a'), 'l');
        Check.same("abroad again", f.rival(0, 'a'), 'l');
        Check.same("in the land", f.rival(0, 'l'), 't');
        Check.same("abroad after", f.rival(0, 'a'), 't');
        Check.same("in the town", f.rival(0, 't'), '-');
        Check.same("in the land after", f.rival(0, 'l'), '-');
        Check.same("in the land at once", f.rival(1, 'l'), 't');
        Check.same("in the town at once", f.rival(2, 't'), '-');
    }
}
