/** Sentences of the document that another reading found without a test of their own. */
public final class ReadAgainTest {
    private static final char[] RULES = {'m', 'b', 'c', 'r'};

    public static void main(String[] args) {
        aFurtherReader();
        quarrelEndsByTheMean();
        canShowBeItFreeOrNot();
        shownOnOtherDaysThanStormy();
        nothingIsSetOnAStormyDay();
        lateMovesThoseThatWait();
        movedTwice();
        eachShowHasItsOwnWaiting();
        waitingWithoutANewShow();
        seatBeforeAndBehindAMove();
        chosenBehindTheBallots();
        rankedAgainAsFilmsGoAndCome();
        prizeIsGivenByTheRuleThen();
        withdrawnIsStillAFilm();
        keysBelongToAFilm();
        Check.end();
    }

    /** Two readers who differ by 40 in the even scores of two films; a further one told nothing yet. */
    private static Juryreel withQuarrel() {
        Juryreel f = Stage.withFilms(4);
        f.reader(9);
        f.reader(9);
        for (int i = 0; i < 2; i++) {
            f.deal(i, 2);
            f.read(i, 0, i == 0 ? 70 : 30);
            f.read(i, 1, i == 0 ? 30 : 70);
        }
        f.section(9, 100, 0, '-', '-');
        return f;
    }

    private static void aFurtherReader() {
        Juryreel f = withQuarrel();
        Check.same("70 and 30", f.isInQuarrel(0), true);
        Check.same("score of one in quarrel", f.score(0), 50);
        f.reader(9);
        Check.same("a further reader", f.deal(0, 1), 3);
        Check.same("who has it", f.isDealt(0, 2), true);
        Check.same("a further score", f.read(0, 2, 100), 3);
        Check.same("even in the middle", f.even(0, 2), 50);
        Check.same("the greatest and the least are as before", f.isInQuarrel(0), true);
        Check.same("none is chosen", f.choose(0), 0);
    }

    private static void quarrelEndsByTheMean() {
        Juryreel f = withQuarrel();
        Check.same("none is chosen at first", f.choose(0), 0);
        f.deal(2, 1);
        f.deal(3, 1);
        Check.same("to the first reader", f.isDealt(2, 0), true);
        f.read(2, 0, 80);
        Check.same("60 and 30", f.even(0, 0) - f.even(0, 1), 30);
        Check.same("20 and 70", f.even(1, 1) - f.even(1, 0), 50);
        Check.same("no quarrel any more", f.isInQuarrel(0), false);
        Check.same("the other's is greater", f.isInQuarrel(1), true);
        Check.same("chosen now, with the new one", f.choose(0), 2);
        Check.same("the one", f.sectionOf(0), 0);
        Check.missing("not the other", f, () -> f.sectionOf(1));
        f.read(3, 1, 100);
        Check.same("in quarrel again", f.isInQuarrel(0), true);
        Check.same("but it stays", f.sectionOf(0), 0);
    }

    private static void canShowBeItFreeOrNot() {
        Juryreel f = Stage.addScreens(Stage.withChosen(200, 10), 1);
        f.show(0, 0, 7);
        for (int film = 0; film < 2; film++) {
            Check.same("on a screen that is taken " + film, f.canShow(film, 0, 7), true);
            Check.same("in its second hour " + film, f.canShow(film, 0, 8), true);
            Check.same("in the last hour of a day " + film, f.canShow(film, 0, 9), true);
            Check.same("in the last hour " + film, f.canShow(film, 0, 49), true);
        }
        Stage.addFilm(f, 2, 10, 0);
        Check.same("one in no section", f.canShow(2, 0, 7), true);
        f.withdraw(1);
        Check.same("a withdrawn one", f.canShow(1, 0, 7), true);
        f.go(50);
        Check.same("at the end", f.canShow(0, 0, 7), true);
    }

    private static void shownOnOtherDaysThanStormy() {
        Juryreel f = Stage.addScreens(Stage.withChosen(10), 1);
        f.storm(1);
        Check.same("it can be shown", f.canShow(0, 0, 7), true);
        Check.refused("but is not set", f, () -> f.show(0, 0, 7));
        Juryreel now = Stage.addScreens(Stage.withChosen(200), 1);
        now.show(0, 0, 1);
        now.go(1);
        now.storm(0);
        Check.same("what is now goes on", now.state(0), 'n');
        Check.refused("though nothing more is set on the day", now, () -> now.show(0, 0, 3));
    }

    private static void nothingIsSetOnAStormyDay() {
        for (int stormy = 1; stormy < 10; stormy++) {
            Juryreel f = Stage.addScreens(Stage.withChosen(10), 1);
            f.go(5 * stormy - 1);
            f.storm(stormy);
            if (stormy < 9) {
                Check.same("plan", f.plan(0), 1);
                Check.same("plan before storm " + stormy, f.of(0, 'h'), 5 * stormy - 1);
                Check.same("plan again", f.plan(0), 1);
                Check.same("plan behind storm " + stormy, f.of(1, 'h'), 5 * stormy + 5);
            } else {
                f.go(1);
                Check.same("no day behind the last storm", f.plan(0), 0);
            }
        }
        Juryreel late = Stage.addScreens(Stage.withChosen(10), 1);
        late.storm(2);
        late.storm(3);
        late.show(0, 0, 9);
        Check.same("late to a stormy day", late.late(0, 11), 1);
        Check.same("is set on the first day without", late.of(1, 'h'), 20);
    }

    private static Juryreel withPasses(int passes, int seats) {
        Juryreel f = Stage.withChosen(10);
        f.screen(seats, true);
        for (int i = 0; i < passes; i++) {
            f.pass(1);
        }
        return f;
    }

    private static void seatsAt(String what, Juryreel f, int show, String due) {
        for (int i = 0; i < due.length(); i++) {
            Check.same(what + ", pass " + i, f.hasSeat(i, show), due.charAt(i) == '1');
        }
    }

    private static void lateMovesThoseThatWait() {
        Juryreel f = withPasses(4, 2);
        f.show(0, 0, 3);
        f.join(3, 0);
        f.join(2, 0);
        f.join(0, 0);
        Check.same("late", f.late(0, 8), 1);
        Check.same("one more waits", f.join(1, 1), 4);
        Check.same("two seats", f.open(1), 2);
        seatsAt("in the order of the show gone", f, 1, "0011");
    }

    private static void movedTwice() {
        Juryreel f = withPasses(4, 2);
        f.show(0, 0, 8);
        f.join(2, 0);
        f.join(1, 0);
        f.go(5);
        f.storm(1);
        f.join(3, 1);
        f.storm(2);
        Check.same("three wait, and one more", f.join(0, 2), 4);
        Check.same("behind both storms", f.of(2, 'h'), 15);
        f.open(2);
        seatsAt("in their order still", f, 2, "0110");
        seatsAt("none at the first", f, 0, "0000");
        seatsAt("none at the second", f, 1, "0000");
    }

    private static void eachShowHasItsOwnWaiting() {
        Juryreel f = withPasses(3, 1);
        f.storm(0);
        f.show(0, 0, 6);
        f.show(0, 0, 8);
        f.join(1, 0);
        f.join(0, 0);
        f.join(0, 1);
        f.join(2, 1);
        Check.same("both go", f.storm(1), 2);
        f.open(2);
        f.open(3);
        seatsAt("who waited first for the first", f, 2, "010");
        seatsAt("who waited first for the second", f, 3, "100");
    }

    private static void waitingWithoutANewShow() {
        Juryreel f = withPasses(2, 1);
        f.print(0, 'd', 0);
        f.key(0, 0, 6, 6);
        f.show(0, 0, 6);
        f.join(1, 0);
        f.storm(1);
        f.key(0, 0, 10, 10);
        Check.same("planned later", f.plan(0), 1);
        Check.same("nobody waits for that", f.join(0, 1), 1);
        f.open(1);
        seatsAt("the one who waits", f, 1, "10");
    }

    private static void seatBeforeAndBehindAMove() {
        Juryreel f = Stage.addScreens(Stage.withSections(10, 10), 2);
        f.pass(0);
        f.storm(0);
        f.show(0, 0, 6);
        f.show(1, 1, 10);
        f.join(0, 0);
        f.join(0, 1);
        f.open(0);
        f.open(1);
        f.storm(1);
        Check.same("moved into the hour of the other show", f.of(2, 'h'), 10);
        Check.same("the seat at the other show hinders one at this", f.open(2), 0);
        Check.same("sound", f.isSound(), true);
    }

    private static Juryreel withTwoSeenByThree() {
        Juryreel f = Stage.addScreens(Stage.withChosen(10, 10), 1);
        Stage.addFilm(f, 2, 10, 2);
        for (int i = 0; i < 3; i++) {
            f.juror(0, 9);
        }
        seenByThree(f, 0);
        seenByThree(f, 1);
        return f;
    }

    private static void seenByThree(Juryreel f, int film) {
        int show = f.show(film, 0, f.now());
        for (int i = 0; i < 3; i++) {
            f.see(0, i, show);
        }
        f.go(1);
    }

    private static Object ballot(Juryreel f, int juror, int... films) {
        f.wipe();
        for (int film : films) {
            f.type(film);
        }
        return Check.answer(() -> f.rank(0, juror));
    }

    private static void winnerByEach(String what, Juryreel f, String due) {
        for (int i = 0; i < RULES.length; i++) {
            f.rule(0, RULES[i]);
            Check.same(what + " by " + RULES[i], f.winner(0), due.charAt(i) - '0');
            Check.same(what + " sound by " + RULES[i], f.isSound(), true);
        }
    }

    private static void chosenBehindTheBallots() {
        Juryreel f = withTwoSeenByThree();
        Check.same("first ballot", ballot(f, 0, 1, 0), 1);
        Check.same("second ballot", ballot(f, 1, 1, 0), 2);
        Check.same("a film is chosen behind them", f.choose(0), 1);
        winnerByEach("on no ballot it hinders nobody", f, "1111");
        Check.same("a ballot without it", ballot(f, 2, 1, 0), "UnsupportedOperationException");
        Check.same("a ballot with it, not seen", ballot(f, 2, 2, 1, 0), "UnsupportedOperationException");
        seenByThree(f, 2);
        Check.same("a ballot with it", ballot(f, 2, 2, 0, 1), 3);
        Check.same("its points are those of its ballot", ballot(f, 0, 2, 1, 0), 3);
        winnerByEach("first on two of three, 4 points as 1 has 2", f, "2222");
    }

    private static void rankedAgainAsFilmsGoAndCome() {
        Juryreel f = withTwoSeenByThree();
        ballot(f, 0, 0, 1);
        ballot(f, 1, 1, 0);
        winnerByEach("one each", f, "0000");
        Check.same("in place of the one there", ballot(f, 1, 0, 1), 2);
        Check.same("and back", ballot(f, 0, 1, 0), 2);
        Check.same("and the other", ballot(f, 1, 1, 0), 2);
        winnerByEach("both for 1", f, "1111");
        f.withdraw(1);
        winnerByEach("0 is left on both", f, "0000");
        Check.same("a ballot of what is left", ballot(f, 2, 0), 3);
        Check.same("one with what is not", ballot(f, 2, 0, 1), "UnsupportedOperationException");
        f.withdraw(0);
        Check.same("nothing is left to rank", ballot(f, 2), "UnsupportedOperationException");
        Check.missing("nor to win", f, () -> f.winner(0));
    }

    private static void prizeIsGivenByTheRuleThen() {
        int[][] ballots = {{0, 1, 2}, {1, 2, 0}, {2, 1, 0}};
        for (char rule : RULES) {
            Juryreel f = withTwoSeenByThree();
            f.choose(0);
            seenByThree(f, 2);
            for (int i = 0; i < 3; i++) {
                ballot(f, i, ballots[i]);
            }
            f.rule(0, rule);
            Check.same("prize by " + rule, f.award(0), rule == 'm' ? 0 : 1);
            ballot(f, 0, 2, 1, 0);
            winnerByEach("the winner changes behind the prize by " + rule, f, "2222");
            Check.refused("but it was given by " + rule, f, () -> f.award(0));
        }
    }

    private static void withdrawnIsStillAFilm() {
        Juryreel f = Stage.addScreens(Stage.withChosenFor(1, 'w'), 1);
        f.sell(0, 0, 0, 9, 4);
        f.withdraw(0);
        f.reader(8);
        Check.same("dealt", f.deal(0, 1), 2);
        Check.same("read", f.read(0, 1, 60), 2);
        Check.same("scored", f.score(0), 50);
        Check.same("shown elsewhere", f.rival(0, 'a'), 'l');
        Check.same("no promise to break", f.isBroken(0), false);
        Check.refused("nor to give up", f, () -> f.giveUp(0));
        Check.same("printed", f.print(0, 'd', 0), false);
        Check.same("keyed", f.key(0, 0, 0, 9), 1);
        Check.same("late", f.late(0, 1), 0);
        Check.same("typed", f.type(0), 1);
        Check.same("owned", f.owner(0, 0, 9), 4);
        Check.refused("not sold", f, () -> f.sell(0, 1, 0, 0, 0));
        Check.refused("not shown", f, () -> f.show(0, 0, 5));
        Check.same("not planned", f.plan(0), 0);
        Check.same("not chosen", f.choose(0), 0);
        Check.same("its score counts", f.meanScore(), 50.0);
    }

    private static void keysBelongToAFilm() {
        Juryreel f = Stage.addScreens(Stage.withFilms(1), 1);
        Check.same("a key before there is a drive", f.key(0, 0, 5, 6), 1);
        Check.same("nothing to open", f.canShow(0, 0, 5), false);
        f.print(0, 'r', 0);
        Check.same("reels need none", f.canShow(0, 0, 4), true);
        f.print(0, 'd', 0);
        Check.same("a drive does", f.canShow(0, 0, 4), false);
        Check.same("and its key opens", f.canShow(0, 0, 5), true);
        f.print(0, 'd', 6);
        Check.same("another drive comes later", f.canShow(0, 0, 5), false);
        Check.same("the key is the film's", f.canShow(0, 0, 6), true);
    }
}
