/** Promises 35 to 42: juries, ballots, winners and prizes. */
public final class JuriesTest {
    public static void main(String[] args) {
        jurors();
        rules();
        sees();
        seesOneShowAnHour();
        types();
        ranks();
        ranksWithoutOwnLand();
        winnerArguments();
        mostFirstPlaces();
        points();
        duels();
        rounds();
        roundsThatRunOut();
        withdrawnFilms();
        awards();
        Check.end();
    }

    /** A festival of so many films, film i of land i, in section 0, whose jurors of these lands saw all of them. */
    private static Juryreel withJury(int films, int... lands) {
        int[] minutes = new int[films];
        java.util.Arrays.fill(minutes, 10);
        Juryreel f = Stage.withChosen(minutes);
        f.screen(1, true);
        for (int land : lands) {
            f.juror(0, land);
        }
        for (int i = 0; i < films; i++) {
            f.show(i, 0, i);
            for (int j = 0; j < lands.length; j++) {
                f.see(0, j, i);
            }
            f.go(1);
        }
        return f;
    }

    private static void ballot(Juryreel f, int juror, int... films) {
        f.wipe();
        for (int film : films) {
            f.type(film);
        }
        f.rank(0, juror);
    }

    private static int winnerBy(Juryreel f, char rule) {
        f.rule(0, rule);
        Check.same("sound by " + rule, f.isSound(), true);
        return f.winner(0);
    }

    private static void jurors() {
        Juryreel f = new Juryreel();
        f.section(1, 1, 0, '-', '-');
        f.section(1, 1, 0, '-', '-');
        Check.outside("juror section", f, () -> f.juror(2, 10));
        Check.outside("juror section -1", f, () -> f.juror(-1, 0));
        Check.illegal("juror land 10", f, () -> f.juror(0, 10));
        Check.illegal("juror land -1", f, () -> f.juror(0, -1));
        for (int i = 0; i < 5; i++) {
            Check.same("juror " + i, f.juror(0, i == 4 ? 9 : 0), i);
        }
        Check.full("juror 5", f, () -> f.juror(0, 0));
        Check.illegal("juror 5 of no land", f, () -> f.juror(0, 10));
        Check.same("by section", f.juror(1, 0), 0);
    }

    private static void rules() {
        Juryreel f = new Juryreel();
        f.section(1, 1, 0, '-', '-');
        f.section(1, 1, 0, '-', '-');
        Check.outside("rule section", f, () -> f.rule(2, 'x'));
        Check.outside("rule section -1", f, () -> f.rule(-1, 'm'));
        Check.illegal("rule x", f, () -> f.rule(0, 'x'));
        Check.same("m at first", f.rule(0, 'b'), 'm');
        Check.same("b before", f.rule(0, 'c'), 'b');
        Check.same("c before", f.rule(0, 'r'), 'c');
        Check.same("r before", f.rule(0, 'm'), 'r');
        Check.same("by section", f.rule(1, 'm'), 'm');
    }

    private static void sees() {
        Juryreel f = Stage.withSections(10, 200, 10);
        f.screen(1, true);
        f.screen(1, true);
        f.juror(0, 9);
        f.juror(1, 9);
        f.show(0, 0, 0);
        f.show(0, 0, 2);
        f.show(1, 1, 0);
        Check.outside("see section", f, () -> f.see(3, 0, 0));
        Check.outside("see section -1", f, () -> f.see(-1, 0, 0));
        Check.outside("see juror", f, () -> f.see(0, 1, 0));
        Check.outside("see juror -1", f, () -> f.see(0, -1, 0));
        Check.outside("see juror of a section without", f, () -> f.see(2, 0, 0));
        Check.outside("see show", f, () -> f.see(0, 0, 3));
        Check.outside("see show -1", f, () -> f.see(0, 0, -1));
        Check.refused("to come", f, () -> f.see(0, 0, 1));
        Check.refused("of another section", f, () -> f.see(0, 0, 2));
        Check.same("now", f.see(0, 0, 0), 1);
        Check.same("again is nothing new", f.see(0, 0, 0), 1);
        Check.same("jurors of sections are others", f.see(1, 0, 2), 1);
        f.go(2);
        Check.refused("over", f, () -> f.see(0, 0, 0));
        Check.same("the film again", f.see(0, 0, 1), 1);
        f.withdraw(0);
        Check.refused("withdrawn, of no section", f, () -> f.see(0, 0, 1));
    }

    private static void seesOneShowAnHour() {
        Juryreel f = Stage.withChosen(200, 10, 10);
        f.screen(1, true);
        f.screen(1, true);
        f.juror(0, 9);
        f.juror(0, 9);
        f.show(0, 0, 0);
        Check.same("first", f.see(0, 0, 0), 1);
        f.withdraw(0);
        f.show(1, 1, 0);
        Check.refused("saw another in this hour", f, () -> f.see(0, 0, 1));
        Check.same("the other juror did not", f.see(0, 1, 1), 1);
        f.go(1);
        f.show(2, 1, 1);
        Check.same("films of the section alone", f.see(0, 0, 2), 1);
        Check.same("two films", f.see(0, 1, 2), 2);
    }

    private static void types() {
        Juryreel f = Stage.withChosen(10);
        Check.outside("type", f, () -> f.type(1));
        Check.outside("type -1", f, () -> f.type(-1));
        for (int i = 1; i <= 9; i++) {
            Check.same("typed " + i, f.type(0), i);
        }
        Check.full("typed 10", f, () -> f.type(0));
        Check.outside("typed 10, no film", f, () -> f.type(1));
        Check.same("wipe", f.wipe(), 9);
        Check.same("wipe again", f.wipe(), 0);
        Check.same("typed anew", f.type(0), 1);
    }

    private static void ranks() {
        Juryreel f = withJury(3, 9, 9);
        f.juror(0, 9);
        f.film('f', 10, 0);
        Check.outside("rank section", f, () -> f.rank(1, 0));
        Check.outside("rank section -1", f, () -> f.rank(-1, 0));
        Check.outside("rank juror", f, () -> f.rank(0, 3));
        Check.outside("rank juror -1", f, () -> f.rank(0, -1));
        Check.refused("none typed", f, () -> f.rank(0, 0));
        f.type(2);
        f.type(0);
        Check.refused("one is missing", f, () -> f.rank(0, 0));
        f.type(0);
        Check.refused("one twice", f, () -> f.rank(0, 0));
        f.wipe();
        f.type(2);
        f.type(0);
        f.type(3);
        Check.refused("a strange one", f, () -> f.rank(0, 0));
        f.wipe();
        for (int i = 0; i < 3; i++) {
            f.type(2 - i);
        }
        f.type(3);
        Check.refused("a strange one more", f, () -> f.rank(0, 0));
        Check.same("a refusal wipes nothing", f.wipe(), 4);
        for (int i = 0; i < 3; i++) {
            f.type(2 - i);
        }
        Check.refused("not seen", f, () -> f.rank(0, 2));
        Check.same("one ballot", f.rank(0, 0), 1);
        Check.same("they are wiped", f.wipe(), 0);
        Check.same("the first one first", f.winner(0), 2);
        for (int i = 0; i < 3; i++) {
            f.type(i);
        }
        Check.same("in place of the one there", f.rank(0, 0), 1);
        Check.same("the new first one", f.winner(0), 0);
        for (int i = 0; i < 3; i++) {
            f.type(i);
        }
        Check.same("a second ballot", f.rank(0, 1), 2);
    }

    private static void ranksWithoutOwnLand() {
        Juryreel f = withJury(3, 1, 9);
        for (int i = 0; i < 3; i++) {
            f.type(i);
        }
        Check.refused("the own land's", f, () -> f.rank(0, 0));
        f.wipe();
        f.type(2);
        f.type(0);
        Check.same("without it", f.rank(0, 0), 1);
        f.withdraw(0);
        f.type(2);
        f.type(1);
        Check.same("without one withdrawn", f.rank(0, 1), 2);
        f.type(2);
        Check.same("again without", f.rank(0, 0), 2);
        Juryreel own = withJury(1, 0);
        Check.refused("no film but of the own land, none typed", own, () -> own.rank(0, 0));
        own.type(0);
        Check.refused("the own one typed", own, () -> own.rank(0, 0));
    }

    private static void winnerArguments() {
        Juryreel f = withJury(2, 9);
        Check.outside("winner", f, () -> f.winner(1));
        Check.outside("winner -1", f, () -> f.winner(-1));
        Check.outside("award", f, () -> f.award(1));
        Check.outside("award -1", f, () -> f.award(-1));
        for (char rule : new char[] {'m', 'b', 'c', 'r'}) {
            f.rule(0, rule);
            Check.missing("no ballot by " + rule, f, () -> f.winner(0));
        }
        Check.missing("no prize", f, () -> f.award(0));
    }

    private static void mostFirstPlaces() {
        Juryreel f = withJury(3, 9, 9, 9);
        ballot(f, 0, 2, 1, 0);
        Check.same("one ballot", winnerBy(f, 'm'), 2);
        ballot(f, 1, 1, 2, 0);
        Check.same("of like ones the lower", winnerBy(f, 'm'), 1);
        ballot(f, 2, 2, 0, 1);
        Check.same("two first places", winnerBy(f, 'm'), 2);
    }

    private static void points() {
        Juryreel f = withJury(4, 9, 9, 9);
        ballot(f, 0, 0, 1, 2, 3);
        ballot(f, 1, 0, 1, 3, 2);
        ballot(f, 2, 1, 2, 3, 0);
        Check.same("most first places", winnerBy(f, 'm'), 0);
        Check.same("0 has 6 points, 1 has 7", winnerBy(f, 'b'), 1);
        Check.same("0 is ahead on more ballots", winnerBy(f, 'c'), 0);
        Check.same("0 is first on two of three", winnerBy(f, 'r'), 0);
        Juryreel g = withJury(2, 0, 1);
        ballot(g, 0, 1);
        Check.same("a film without points", winnerBy(g, 'b'), 1);
        ballot(g, 1, 0);
        Check.same("of like ones the lower", winnerBy(g, 'b'), 0);
    }

    private static void duels() {
        Juryreel f = withJury(4, 9, 9, 9);
        ballot(f, 0, 0, 2, 1, 3);
        ballot(f, 1, 1, 2, 0, 3);
        ballot(f, 2, 3, 2, 1, 0);
        Check.same("ahead of each other one", winnerBy(f, 'c'), 2);
        Check.same("though the lowest by first places", winnerBy(f, 'm'), 0);
        Juryreel g = withJury(4, 9, 9, 9);
        ballot(g, 0, 1, 2, 3, 0);
        ballot(g, 1, 2, 3, 1, 0);
        ballot(g, 2, 3, 1, 2, 0);
        Check.same("a ring: by points, of like ones the lower", winnerBy(g, 'c'), 1);
        ballot(g, 2, 3, 0, 1, 2);
        Check.same("a ring still: 3 has 6 points, 1 and 2 have 5", winnerBy(g, 'c'), 3);
        Juryreel h = withJury(2, 9, 9);
        ballot(h, 0, 1, 0);
        ballot(h, 1, 0, 1);
        Check.same("like is not ahead: by points", winnerBy(h, 'c'), 0);
        Juryreel k = withJury(3, 0, 1, 9);
        ballot(k, 0, 2, 1);
        ballot(k, 1, 2, 0);
        ballot(k, 2, 0, 1, 2);
        Check.same("like duels with 2, none ahead of all: 0 and 2 have like points", winnerBy(k, 'c'), 0);
        Juryreel like = withJury(3, 9, 9);
        ballot(like, 0, 0, 1, 2);
        ballot(like, 1, 1, 2, 0);
        Check.same("0 is like with both, 1 has 3 points", winnerBy(like, 'c'), 1);
        Juryreel both = withJury(3, 1, 1, 9);
        ballot(both, 0, 0, 2);
        ballot(both, 1, 0, 2);
        ballot(both, 2, 0, 1, 2);
        Check.same("ballots that have both alone", winnerBy(both, 'c'), 0);
        Juryreel apart = withJury(2, 0, 1);
        ballot(apart, 0, 1);
        ballot(apart, 1, 0);
        Check.same("never on one ballot", winnerBy(apart, 'c'), 0);
    }

    private static void rounds() {
        Juryreel f = withJury(4, 9, 9, 9, 9, 9);
        ballot(f, 0, 0, 3, 1, 2);
        ballot(f, 1, 0, 3, 1, 2);
        ballot(f, 2, 1, 2, 3, 0);
        ballot(f, 3, 1, 3, 2, 0);
        ballot(f, 4, 2, 1, 3, 0);
        Check.same("most first places, the lower", winnerBy(f, 'm'), 0);
        Check.same("3 goes, 2 goes, then 1 has three of five", winnerBy(f, 'r'), 1);
        Juryreel g = withJury(3, 9, 9, 9);
        ballot(g, 0, 0, 1, 2);
        ballot(g, 1, 1, 2, 0);
        ballot(g, 2, 2, 0, 1);
        Check.same("of like ones the highest goes", winnerBy(g, 'r'), 0);
        Juryreel h = withJury(2, 9, 9);
        ballot(h, 0, 0, 1);
        ballot(h, 1, 1, 0);
        Check.same("half is not more than half", winnerBy(h, 'r'), 0);
    }

    /** Ballots without a film of the own land can have none left, and count no more then. */
    private static void roundsThatRunOut() {
        Juryreel f = withJury(3, 1, 2, 0, 9);
        ballot(f, 0, 2, 0);
        ballot(f, 1, 0, 1);
        ballot(f, 2, 1, 2);
        ballot(f, 3, 1, 0, 2);
        Check.same("2 goes, then 0 and 1 are even, 1 goes", winnerBy(f, 'r'), 0);
        Juryreel g = withJury(2, 0, 0, 1);
        ballot(g, 0, 1);
        ballot(g, 1, 1);
        ballot(g, 2, 0);
        Check.same("two of three", winnerBy(g, 'r'), 1);
        g.withdraw(1);
        Check.same("the one ballot left", winnerBy(g, 'r'), 0);
    }

    private static void withdrawnFilms() {
        Juryreel f = withJury(4, 9, 9, 9);
        ballot(f, 0, 0, 1, 2, 3);
        ballot(f, 1, 0, 2, 1, 3);
        ballot(f, 2, 3, 1, 2, 0);
        Check.same("before", winnerBy(f, 'm'), 0);
        f.withdraw(0);
        Check.same("the next ones are first", winnerBy(f, 'm'), 1);
        Check.same("points without it", winnerBy(f, 'b'), 1);
        Check.same("duels without it", winnerBy(f, 'c'), 1);
        Check.same("rounds without it", winnerBy(f, 'r'), 1);
        f.withdraw(1);
        f.withdraw(2);
        for (char rule : new char[] {'m', 'b', 'c', 'r'}) {
            Check.same("the last one by " + rule, winnerBy(f, rule), 3);
        }
        f.withdraw(3);
        for (char rule : new char[] {'m', 'b', 'c', 'r'}) {
            f.rule(0, rule);
            Check.missing("none left by " + rule, f, () -> f.winner(0));
        }
        Check.missing("no prize", f, () -> f.award(0));
    }

    private static void awards() {
        Juryreel f = new Juryreel();
        f.reader(9);
        Stage.addFilm(f, 0, 10, 0);
        Stage.addFilm(f, 1, 10, 1);
        f.section(9, 100, 0, '-', 'l');
        f.choose(0);
        f.screen(1, true);
        f.juror(0, 9);
        f.plan(0);
        f.see(0, 0, 0);
        f.go(1);
        f.see(0, 0, 1);
        ballot(f, 0, 1, 0);
        f.rival(1, 'l');
        Check.refused("the winner's promise is broken", f, () -> f.award(0));
        f.rival(0, 't');
        f.giveUp(1);
        Check.same("another's promise is nothing to it", f.award(0), 1);
        Check.same("line", f.line(0, false), (int) 'p');
        Check.same("line's film", f.line(0, true), 1);
        Check.refused("once", f, () -> f.award(0));
        f.withdraw(0);
        f.withdraw(1);
        Check.refused("given before no winner", f, () -> f.award(0));
    }
}
