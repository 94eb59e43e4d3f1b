/** Promises 11 to 16: sections, choosing and promises. */
public final class SectionsTest {
    public static void main(String[] args) {
        sections();
        choosesBetterFilmsFirst();
        choosesWithinTheBudget();
        choosesByFormScoreAndPremiere();
        leavesQuarrels();
        sectionsOfFilms();
        promises();
        broken();
        Check.end();
    }

    /** Films of these minutes, each told the score by one reader, so that scores are compared within that reader. */
    private static Juryreel withFilms(int[] minutes, int[] scores) {
        Juryreel f = new Juryreel();
        f.reader(9);
        for (int i = 0; i < minutes.length; i++) {
            f.film('f', minutes[i], 1);
            f.deal(i, 1);
            f.read(i, 0, scores[i]);
        }
        return f;
    }

    private static void sections() {
        Juryreel f = new Juryreel();
        Check.illegal("quota 0", f, () -> f.section(0, 1, 0, '-', '-'));
        Check.illegal("quota 10", f, () -> f.section(10, 1, 0, '-', '-'));
        Check.illegal("budget 0", f, () -> f.section(1, 0, 0, '-', '-'));
        Check.illegal("budget 2001", f, () -> f.section(1, 2001, 0, '-', '-'));
        Check.illegal("least -1", f, () -> f.section(1, 1, -1, '-', '-'));
        Check.illegal("least 101", f, () -> f.section(1, 1, 101, '-', '-'));
        Check.illegal("form", f, () -> f.section(1, 1, 0, 'w', '-'));
        Check.illegal("premiere", f, () -> f.section(1, 1, 0, '-', 'f'));
        Check.illegal("premiere abroad", f, () -> f.section(1, 1, 0, '-', 'a'));
        Check.same("section 0", f.section(9, 2000, 100, 'f', 'w'), 0);
        Check.same("section 1", f.section(1, 1, 0, 's', 'l'), 1);
        Check.same("section 2", f.section(1, 1, 0, 'd', 't'), 2);
        Check.same("section 3", f.section(1, 1, 0, '-', '-'), 3);
        Check.same("section 4", f.section(1, 1, 0, '-', '-'), 4);
        Check.full("section 5", f, () -> f.section(1, 1, 0, '-', '-'));
        Check.illegal("section 5 of quota 0", f, () -> f.section(0, 1, 0, '-', '-'));
        Check.same("no films", f.minutes(4), 0);
        Check.outside("minutes", f, () -> f.minutes(5));
        Check.outside("minutes -1", f, () -> f.minutes(-1));
        Check.outside("choose", f, () -> f.choose(5));
        Check.outside("choose -1", f, () -> f.choose(-1));
        Check.same("choose none", f.choose(4), 0);
    }

    private static void choosesBetterFilmsFirst() {
        Juryreel f = withFilms(new int[] {10, 20, 30, 40}, new int[] {50, 60, 40, 60});
        f.film('f', 1, 1);
        f.section(2, 2000, 0, '-', '-');
        Check.same("two by the quota", f.choose(0), 2);
        Check.same("the better ones", f.minutes(0), 60);
        Check.same("line of the second", f.line(0, true), 3);
        Check.same("line of the first", f.line(1, true), 1);
        Check.same("letter", f.line(1, false), (int) 'c');
        Check.same("full", f.choose(0), 0);
        f.section(9, 2000, 0, '-', '-');
        Check.same("others, but none without a score", f.choose(1), 2);
        Check.same("by score", f.line(1, true), 0);
        Check.same("last", f.line(0, true), 2);
        f.withdraw(1);
        Check.same("minutes without the withdrawn one", f.minutes(0), 40);
        Check.same("the withdrawn one is not chosen again", f.choose(0), 0);
        f.reader(8);
        f.deal(4, 1);
        f.read(4, 1, 5);
        Check.same("room after a withdrawal", f.choose(0), 1);
        Check.same("of the one scored now", f.sectionOf(4), 0);
    }

    private static void choosesWithinTheBudget() {
        Juryreel f = withFilms(new int[] {100, 60, 40, 41}, new int[] {90, 80, 70, 70});
        f.section(9, 140, 0, '-', '-');
        Check.same("a later one fits", f.choose(0), 2);
        Check.same("just the budget", f.minutes(0), 140);
        Check.same("first", f.sectionOf(0), 0);
        Check.same("third", f.sectionOf(2), 0);
        Check.missing("second", f, () -> f.sectionOf(1));
        Juryreel g = withFilms(new int[] {100, 41}, new int[] {90, 80});
        g.section(9, 140, 0, '-', '-');
        Check.same("a minute too many", g.choose(0), 1);
    }

    private static void choosesByFormScoreAndPremiere() {
        Juryreel f = new Juryreel();
        f.reader(9);
        f.film('f', 10, 1);
        f.film('s', 10, 1);
        f.film('d', 10, 1);
        for (int i = 0; i < 3; i++) {
            f.deal(i, 1);
            f.read(i, 0, 50 + i);
        }
        f.section(9, 100, 0, 's', '-');
        f.section(9, 100, 52, '-', '-');
        f.section(9, 100, 51, '-', '-');
        Check.same("by form", f.choose(0), 1);
        Check.same("the s", f.sectionOf(1), 0);
        Check.same("51 is below 52", f.choose(1), 0);
        Check.same("51 is enough", f.choose(2), 1);
        Check.same("the d", f.sectionOf(2), 2);
        Juryreel g = withFilms(new int[] {1, 2, 3, 4}, new int[] {50, 50, 50, 50});
        g.rival(1, 'a');
        g.rival(2, 'l');
        g.rival(3, 't');
        g.section(9, 100, 0, '-', 'w');
        g.section(9, 100, 0, '-', 'l');
        g.section(9, 100, 0, '-', 't');
        g.section(9, 100, 0, '-', '-');
        for (int i = 0; i < 4; i++) {
            Check.same("by premiere " + i, g.choose(i), 1);
            Check.same("the film " + i, g.sectionOf(i), i);
        }
        Juryreel h = withFilms(new int[] {1, 2, 3, 4}, new int[] {50, 50, 50, 50});
        h.rival(1, 'a');
        h.rival(2, 'l');
        h.rival(3, 't');
        h.section(9, 100, 0, '-', 't');
        Check.same("greater ones too", h.choose(0), 3);
        Check.missing("but not the least", h, () -> h.sectionOf(3));
    }

    private static void leavesQuarrels() {
        Juryreel f = new Juryreel();
        f.reader(8);
        f.reader(9);
        for (int i = 0; i < 2; i++) {
            f.film('f', 10, 1);
            f.deal(i, 2);
            f.read(i, 0, i == 0 ? 100 : 0);
            f.read(i, 1, i == 0 ? 0 : 100);
        }
        f.section(9, 100, 0, '-', '-');
        Check.same("none in quarrel", f.choose(0), 0);
        f.film('f', 10, 1);
        f.deal(2, 1);
        f.read(2, 0, 50);
        Check.same("one without", f.choose(0), 1);
        Juryreel g = new Juryreel();
        g.reader(8);
        g.reader(9);
        for (int i = 0; i < 2; i++) {
            g.film('f', 10, 1);
            g.deal(i, 2);
            g.read(i, 0, i == 0 ? 60 : 30);
            g.read(i, 1, i == 0 ? 40 : 70);
        }
        g.section(9, 100, 0, '-', '-');
        Check.same("65 and 35", g.even(0, 0) - g.even(0, 1), 30);
        Check.same("30 apart is no quarrel", g.choose(0), 2);
    }

    private static void sectionsOfFilms() {
        Juryreel f = withFilms(new int[] {10, 20}, new int[] {50, 50});
        f.section(1, 100, 0, '-', '-');
        f.section(1, 100, 0, '-', '-');
        Check.outside("sectionOf", f, () -> f.sectionOf(2));
        Check.outside("sectionOf -1", f, () -> f.sectionOf(-1));
        Check.missing("not chosen", f, () -> f.sectionOf(0));
        f.choose(1);
        Check.same("chosen", f.sectionOf(0), 1);
        f.withdraw(0);
        Check.missing("withdrawn", f, () -> f.sectionOf(0));
        f.choose(0);
        Check.same("stays, be the promise gone or not", f.sectionOf(1), 0);
    }

    private static void promises() {
        Juryreel f = withFilms(new int[] {1, 2, 3, 4, 5}, new int[] {54, 53, 52, 51, 50});
        char[] premieres = {'w', 'l', 't', '-'};
        for (int i = 0; i < 4; i++) {
            f.section(1, 100, 0, '-', premieres[i]);
            f.choose(i);
        }
        Check.outside("giveUp", f, () -> f.giveUp(5));
        Check.outside("giveUp -1", f, () -> f.giveUp(-1));
        Check.refused("giveUp of one not chosen", f, () -> f.giveUp(4));
        Check.refused("giveUp of -", f, () -> f.giveUp(3));
        Check.same("giveUp w", f.giveUp(0), 'w');
        Check.same("giveUp l", f.giveUp(1), 'l');
        Check.same("line", f.line(0, false), (int) 'g');
        Check.same("line's film", f.line(0, true), 1);
        Check.refused("giveUp again", f, () -> f.giveUp(0));
        Check.same("stays in its section", f.sectionOf(0), 0);
        f.withdraw(2);
        Check.refused("giveUp of a withdrawn one", f, () -> f.giveUp(2));
    }

    private static void broken() {
        Juryreel f = withFilms(new int[] {1, 2, 3, 4}, new int[] {54, 53, 52, 51});
        f.section(1, 100, 0, '-', 'w');
        f.section(1, 100, 0, '-', 'l');
        f.section(1, 100, 0, '-', '-');
        for (int i = 0; i < 3; i++) {
            f.choose(i);
        }
        Check.outside("isBroken", f, () -> f.isBroken(4));
        Check.outside("isBroken -1", f, () -> f.isBroken(-1));
        Check.same("kept", f.isBroken(0), false);
        f.rival(0, 'a');
        f.rival(1, 'a');
        f.rival(2, 't');
        f.rival(3, 't');
        Check.same("w is broken abroad", f.isBroken(0), true);
        Check.same("l is not", f.isBroken(1), false);
        Check.same("no promise", f.isBroken(2), false);
        Check.same("not chosen", f.isBroken(3), false);
        f.rival(1, 'l');
        Check.same("l is in the land", f.isBroken(1), true);
        f.giveUp(0);
        Check.same("given up", f.isBroken(0), false);
        f.withdraw(1);
        Check.same("withdrawn", f.isBroken(1), false);
    }
}
