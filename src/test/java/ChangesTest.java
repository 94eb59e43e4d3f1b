/** Promises 28 to 30: storms, late prints and withdrawals. */
public final class ChangesTest {
    public static void main(String[] args) {
        stormArguments();
        stormMovesShows();
        stormTakesAllFirst();
        stormWithoutPlace();
        stormMovesThoseThatWait();
        stormOfTooMany();
        lateArguments();
        lateMovesShows();
        lateByPrintsAndKeys();
        lateOfTooMany();
        withdraws();
        Check.end();
    }

    private static void stormArguments() {
        Juryreel f = new Juryreel();
        Check.illegal("storm -1", f, () -> f.storm(-1));
        Check.illegal("storm 10", f, () -> f.storm(10));
        Check.same("storm 9", f.storm(9), 0);
        Check.refused("storm 9 again", f, () -> f.storm(9));
        f.go(50);
        Check.same("a storm of a day before", f.storm(0), 0);
        Check.refused("again", f, () -> f.storm(0));
    }

    private static void stormMovesShows() {
        Juryreel f = Stage.withChosen(10, 200, 20);
        f.screen(1, true);
        f.show(0, 0, 0);
        f.show(0, 0, 1);
        f.show(1, 0, 2);
        f.show(2, 0, 5);
        f.go(1);
        Check.same("those to come on the day", f.storm(0), 1);
        Check.same("over stays", f.state(0), 'o');
        Check.same("now stays", f.state(1), 'n');
        Check.same("gone", f.state(2), 's');
        Check.same("another day stays", f.state(3), 't');
        Check.same("a new show", f.of(4, 'f'), 1);
        Check.same("at the first hour that is free", f.of(4, 'h'), 6);
        Check.same("line of the new one", f.line(0, false), (int) 's');
        Check.same("line of the one gone", f.line(1, false), (int) 'x');
        Check.same("line's film", f.line(1, true), 1);
        Check.same("a storm on the next day", f.storm(1), 2);
        Check.same("moved again", f.state(4), 's');
        Check.same("by numbers", f.of(5, 'f'), 2);
        Check.same("on a day without storm", f.of(5, 'h'), 10);
        Check.same("the other behind", f.of(6, 'h'), 11);
        Check.same("sound", f.isSound(), true);
    }

    private static void stormTakesAllFirst() {
        Juryreel f = Stage.withSections(10, 10);
        f.screen(1, true);
        f.print(0, 'd', 0);
        f.key(0, 0, 8, 8);
        f.key(0, 0, 10, 10);
        f.show(0, 0, 8);
        f.show(1, 0, 7);
        Check.same("two gone", f.storm(1), 2);
        char[] letters = {'s', 's', 'x', 'x'};
        int[] films = {1, 0, 1, 0};
        for (int i = 0; i < 4; i++) {
            Check.same("letter " + i, f.line(i, false), (int) letters[i]);
            Check.same("film " + i, f.line(i, true), films[i]);
        }
        Check.same("first", f.of(2, 'h'), 10);
        Check.same("second goes before", f.of(3, 'h'), 0);
        Check.same("and is now", f.state(3), 'n');
        Juryreel g = Stage.withChosen(10, 10);
        g.screen(1, true);
        g.show(0, 0, 6);
        g.show(1, 0, 12);
        g.print(0, 'd', 0);
        g.key(0, 0, 12, 12);
        g.key(0, 0, 13, 13);
        Check.same("one gone", g.storm(1), 1);
        Check.same("those that stay keep their hours", g.of(2, 'h'), 13);
    }

    private static void stormWithoutPlace() {
        Juryreel f = Stage.withChosen(10);
        f.screen(1, true);
        f.print(0, 'd', 0);
        f.key(0, 0, 6, 6);
        f.show(0, 0, 6);
        f.pass(0);
        f.join(0, 0);
        Check.same("gone, though not set anew", f.storm(1), 1);
        Check.outside("no new show", f, () -> f.state(1));
        Check.same("gone", f.state(0), 's');
        Check.refused("no opening of it", f, () -> f.open(0));
        Check.refused("no waiting for it", f, () -> f.join(0, 0));
        Check.same("the last line", f.line(0, false), (int) 'x');
    }

    private static void stormMovesThoseThatWait() {
        Juryreel f = Stage.withChosen(10);
        f.screen(2, true);
        for (int i = 0; i < 4; i++) {
            f.pass(1);
        }
        f.storm(0);
        f.show(0, 0, 6);
        f.join(2, 0);
        f.join(3, 0);
        f.join(0, 0);
        Check.same("two seats", f.open(0), 2);
        f.storm(1);
        Check.refused("they wait for the new one", f, () -> f.join(3, 1));
        Check.refused("those without seats too", f, () -> f.join(0, 1));
        Check.same("one more waits", f.join(1, 1), 4);
        Check.same("no seat yet", f.hasSeat(2, 1), false);
        Check.same("opened anew", f.open(1), 2);
        Check.same("in their order", f.hasSeat(2, 1) && f.hasSeat(3, 1), true);
        Check.same("the others without", f.hasSeat(0, 1) || f.hasSeat(1, 1), false);
        Check.same("sound", f.isSound(), true);
    }

    private static void stormOfTooMany() {
        Juryreel f = Stage.withSections(10, 10);
        f.screen(1, true);
        f.screen(1, true);
        for (int i = 0; i < 58; i++) {
            f.show(i / 30, i / 30, i % 30);
        }
        Check.full("ten more than 58", f, () -> f.storm(1));
        Check.full("four more than 58", f, () -> f.late(0, 5));
        f.go(24);
        Check.same("a day of three shows now and over", f.now(), 24);
        Check.refused("days keep", f, () -> f.show(0, 0, 3));
        Check.same("day 4 has none to come", f.storm(4), 0);
        f.go(4);
        Check.same("one to come on day 5", f.storm(5), 1);
        Check.same("59 shows", f.of(58, 'f'), 0);
        Check.illegal("no such day first", f, () -> f.storm(10));
        Check.refused("one storm a day first", f, () -> f.storm(5));
    }

    private static void lateArguments() {
        Juryreel f = Stage.withChosen(10);
        f.film('f', 10, 0);
        Check.outside("late film", f, () -> f.late(2, 50));
        Check.outside("late film -1", f, () -> f.late(-1, 1));
        Check.illegal("late 50", f, () -> f.late(0, 50));
        Check.illegal("late 50 without print", f, () -> f.late(1, 50));
        Check.refused("late without print", f, () -> f.late(1, 49));
        Check.illegal("late 0, not behind", f, () -> f.late(0, 0));
        Check.illegal("late -1", f, () -> f.late(0, -1));
        Check.same("late 1", f.late(0, 1), 0);
        Check.illegal("late 1 again", f, () -> f.late(0, 1));
        Check.same("late 49", f.late(0, 49), 0);
        Check.illegal("no later", f, () -> f.late(0, 49));
        f.print(0, 'r', 3);
        Check.same("behind a new print", f.late(0, 4), 0);
    }

    private static void lateMovesShows() {
        Juryreel f = Stage.withChosen(200, 10);
        f.screen(1, true);
        f.show(0, 0, 0);
        f.show(0, 0, 5);
        f.show(0, 0, 10);
        f.show(1, 0, 7);
        f.pass(0);
        f.join(0, 1);
        Check.same("one gone: it has come by its second hour only", f.late(0, 6), 1);
        Check.same("now stays", f.state(0), 'n');
        Check.same("late", f.state(1), 'l');
        Check.same("later stays", f.state(2), 't');
        Check.same("of another film stays", f.state(3), 't');
        Check.same("anew behind the other", f.of(4, 'h'), 8);
        Check.refused("who waited waits", f, () -> f.join(0, 4));
        Check.same("print comes later", f.canShow(0, 0, 5), false);
        Check.same("and then is there", f.canShow(0, 0, 6), true);
        Check.same("letter", f.line(1, false), (int) 'x');
        Check.same("to the last day: two gone, and one is set anew", f.late(0, 48), 2);
        Check.same("the first of them", f.of(5, 'h'), 48);
        Check.outside("no place for the second", f, () -> f.state(6));
    }

    private static void lateByPrintsAndKeys() {
        Juryreel f = Stage.withChosen(10);
        f.screen(1, true);
        f.screen(1, false);
        f.show(0, 0, 20);
        f.show(0, 0, 30);
        f.print(0, 'd', 2);
        f.key(0, 0, 30, 40);
        Check.same("what cannot be shown any more", f.late(0, 3), 1);
        Check.same("no key", f.state(0), 'l');
        Check.same("a key", f.state(1), 't');
        Check.same("anew where the key opens", f.of(2, 'h'), 31);
    }

    private static void lateOfTooMany() {
        Juryreel f = Stage.withSections(10, 10);
        f.screen(1, true);
        f.screen(1, true);
        for (int i = 0; i < 57; i++) {
            f.show(i / 30, i / 30, i % 30);
        }
        Check.full("late by four: 0 is now, three go", f, () -> f.late(0, 5));
        Check.illegal("too late first", f, () -> f.late(0, 50));
        Check.same("three go", f.late(0, 4), 3);
        Check.same("all of 60", f.state(59), 't');
        Check.full("one more", f, () -> f.late(0, 5));
        Check.full("a storm", f, () -> f.storm(1));
        Check.same("a storm without shows", f.storm(9), 0);
    }

    private static void withdraws() {
        Juryreel f = Stage.withChosen(200, 10);
        f.film('f', 1, 1);
        f.screen(1, true);
        f.show(0, 0, 0);
        f.show(0, 0, 10);
        f.show(0, 0, 15);
        f.show(1, 0, 20);
        f.go(1);
        Check.outside("withdraw", f, () -> f.withdraw(3));
        Check.outside("withdraw -1", f, () -> f.withdraw(-1));
        Check.same("two gone", f.withdraw(0), 2);
        Check.same("now stays", f.state(0), 'n');
        Check.same("gone", f.state(1), 'w');
        Check.same("gone too", f.state(2), 'w');
        Check.same("another film's stays", f.state(3), 't');
        Check.outside("nothing anew", f, () -> f.state(4));
        Check.same("line", f.line(0, false), (int) 'x');
        Check.same("line before", f.line(1, false), (int) 'x');
        Check.same("and no third", f.line(2, false), (int) 's');
        Check.missing("no section", f, () -> f.sectionOf(0));
        Check.same("minutes", f.minutes(0), 10);
        Check.refused("withdrawn", f, () -> f.withdraw(0));
        Check.same("one that was not chosen", f.withdraw(2), 0);
        Check.refused("once", f, () -> f.withdraw(2));
        Check.same("place is free", f.show(1, 0, 10), 4);
        f.go(2);
        Check.same("over", f.state(0), 'o');
    }
}
