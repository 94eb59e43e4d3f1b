/** Promises 21 to 27: shows, plans and hours. */
public final class GridTest {
    public static void main(String[] args) {
        showArguments();
        showNeedsPlace();
        showsOfOneSection();
        showKeys();
        sixtyShows();
        plans();
        planTakesTheFirstPlace();
        planWithShowsNow();
        planOfTooMany();
        parts();
        states();
        at();
        hours();
        Check.end();
    }

    private static void showArguments() {
        Juryreel f = Stage.withChosen(10);
        Stage.addFilm(f, 1, 10, 1);
        f.screen(1, true);
        Check.outside("show film", f, () -> f.show(2, 0, 50));
        Check.outside("show film -1", f, () -> f.show(-1, 0, 0));
        Check.outside("show screen", f, () -> f.show(0, 1, 50));
        Check.outside("show screen -1", f, () -> f.show(0, -1, 0));
        Check.illegal("show hour 50", f, () -> f.show(1, 0, 50));
        Check.illegal("show hour -1", f, () -> f.show(0, 0, -1));
        Check.refused("a film in no section", f, () -> f.show(1, 0, 0));
        Check.same("show", f.show(0, 0, 0), 0);
        Check.same("line", f.line(0, false), (int) 's');
        Check.same("line's film", f.line(0, true), 0);
        Check.same("the same film again", f.show(0, 0, 1), 1);
        f.withdraw(0);
        Check.refused("a withdrawn film", f, () -> f.show(0, 0, 9));
    }

    private static void showNeedsPlace() {
        Juryreel f = Stage.withSections(150, 151, 300, 10);
        f.screen(1, true);
        f.screen(1, true);
        f.screen(1, false);
        Check.refused("two hours at the day's end", f, () -> f.show(1, 0, 4));
        Check.refused("two hours at the last hour", f, () -> f.show(1, 0, 49));
        Check.same("two hours just on the day", f.show(1, 0, 3), 0);
        Check.same("length", f.of(0, 'l'), 2);
        Check.refused("screen taken in its first hour", f, () -> f.show(0, 0, 3));
        Check.refused("screen taken in its second hour", f, () -> f.show(0, 0, 4));
        Check.refused("two hours into a taken one", f, () -> f.show(2, 0, 2));
        Check.same("the other screen", f.show(2, 1, 2), 1);
        Check.refused("the film on another screen", f, () -> f.show(1, 1, 4));
        Check.refused("no gear", f, () -> f.show(0, 2, 0));
        Check.same("150 minutes at the day's end", f.show(0, 1, 4), 2);
        Check.same("one hour", f.of(2, 'l'), 1);
        f.storm(5);
        Check.refused("a storm on the day", f, () -> f.show(0, 0, 25));
        Check.refused("a storm on the day, at its end", f, () -> f.show(0, 0, 29));
        Check.same("a day after", f.show(0, 0, 30), 3);
        Check.same("a day before", f.show(0, 0, 24), 4);
        f.go(40);
        Check.refused("before the present hour", f, () -> f.show(0, 0, 39));
        Check.same("the present hour", f.show(0, 0, 40), 5);
        Check.same("is now", f.state(5), 'n');
        f.go(10);
        Check.refused("at the end", f, () -> f.show(0, 0, 49));
    }

    private static void showsOfOneSection() {
        Juryreel f = Stage.withChosen(10, 200, 10);
        f.screen(1, true);
        f.screen(1, true);
        f.show(1, 0, 1);
        Check.refused("another of the section in its first hour", f, () -> f.show(0, 1, 1));
        Check.refused("another of the section in its second hour", f, () -> f.show(0, 1, 2));
        Check.same("behind it", f.show(0, 1, 3), 1);
        Check.refused("two hours before", f, () -> f.show(1, 0, 3));
        f.go(1);
        f.withdraw(1);
        Check.same("the withdrawn one goes on", f.state(0), 'n');
        Check.same("and is of no section", f.show(2, 1, 2), 2);
        Check.refused("but has its screen", f, () -> f.show(2, 0, 1));
    }

    private static void showKeys() {
        Juryreel f = Stage.withChosen(200);
        f.screen(1, true);
        f.print(0, 'd', 6);
        f.key(0, 0, 3, 7);
        f.key(0, 0, 8, 10);
        Check.refused("drive not come", f, () -> f.show(0, 0, 3));
        Check.refused("drive not come in its first hour", f, () -> f.show(0, 0, 5));
        Check.refused("key ends", f, () -> f.show(0, 0, 10));
        Check.same("two keys in turn", f.show(0, 0, 7), 0);
    }

    private static void sixtyShows() {
        Juryreel f = Stage.withSections(10, 10);
        f.screen(1, true);
        f.screen(1, true);
        for (int i = 0; i < 60; i++) {
            Check.same("show " + i, f.show(i / 30, i / 30, i % 30), i);
        }
        Check.refused("a taken place first", f, () -> f.show(0, 0, 0));
        Check.full("show 61", f, () -> f.show(0, 0, 40));
        Check.same("plan of those that have one", f.plan(0), 0);
        Check.same("sound", f.isSound(), true);
    }

    private static void plans() {
        Juryreel f = Stage.withChosen(10, 200, 30, 200, 30);
        Check.outside("plan", f, () -> f.plan(1));
        Check.outside("plan -1", f, () -> f.plan(-1));
        Check.same("no screens", f.plan(0), 0);
        f.screen(1, true);
        f.show(2, 0, 9);
        Check.same("four without", f.plan(0), 4);
        int[] films = {2, 1, 3, 4, 0};
        int[] hours = {9, 0, 2, 4, 5};
        for (int i = 0; i < 5; i++) {
            Check.same("film " + i, f.of(i, 'f'), films[i]);
            Check.same("hour " + i, f.of(i, 'h'), hours[i]);
        }
        Check.same("line", f.line(0, true), 0);
        Check.same("line before", f.line(1, true), 4);
    }

    private static void planTakesTheFirstPlace() {
        Juryreel f = Stage.withChosen(10, 20);
        f.section(9, 100, 0, '-', '-');
        Stage.addFilm(f, 2, 10, 0);
        f.choose(1);
        f.screen(1, false);
        f.screen(1, true);
        f.screen(1, true);
        f.storm(0);
        f.print(0, 'd', 0);
        f.show(2, 1, 5);
        Check.same("one is left out", f.plan(0), 1);
        Check.same("first hour", f.of(1, 'h'), 5);
        Check.same("lowest screen with gear and room", f.of(1, 's'), 2);
        f.key(0, 0, 20, 23);
        f.go(21);
        Check.same("both again", f.plan(0), 2);
        Check.same("longer first", f.of(2, 'f'), 1);
        Check.same("at the present hour", f.of(2, 'h'), 21);
        Check.same("set anew", f.state(2), 'n');
        Check.same("the other behind it", f.of(3, 'h'), 22);
        Check.same("where its key opens", f.of(3, 's'), 0);
    }

    private static void planWithShowsNow() {
        Juryreel f = Stage.withChosen(10);
        f.screen(1, true);
        Check.same("first plan", f.plan(0), 1);
        Check.same("it is now", f.state(0), 'n');
        Check.same("one that is now is aside", f.plan(0), 1);
        Check.same("the hour behind", f.of(1, 'h'), 1);
        Check.same("it has one to come", f.plan(0), 0);
        f.go(5);
        Check.same("over", f.plan(0), 1);
        f.go(45);
        Check.same("at the end", f.plan(0), 0);
    }

    private static void planOfTooMany() {
        Juryreel f = Stage.withSections(10, 10);
        f.section(9, 100, 0, '-', '-');
        Stage.addFilm(f, 2, 20, 0);
        Stage.addFilm(f, 3, 10, 0);
        f.choose(2);
        f.screen(1, true);
        f.screen(1, true);
        for (int i = 0; i < 59; i++) {
            f.show(i / 30, i / 30, i % 30);
        }
        f.print(3, 'd', 0);
        Check.full("would be 61, though one has no place", f, () -> f.plan(2));
        f.withdraw(3);
        Check.same("just 60", f.plan(2), 1);
        Check.same("the last one", f.of(59, 'f'), 2);
    }

    private static void parts() {
        Juryreel f = Stage.withChosen(10, 200);
        f.screen(1, true);
        f.screen(1, true);
        f.show(1, 1, 8);
        Check.outside("of show", f, () -> f.of(1, 'x'));
        Check.outside("of show -1", f, () -> f.of(-1, 'f'));
        Check.illegal("of x", f, () -> f.of(0, 'x'));
        Check.same("film", f.of(0, 'f'), 1);
        Check.same("screen", f.of(0, 's'), 1);
        Check.same("hour", f.of(0, 'h'), 8);
        Check.same("length", f.of(0, 'l'), 2);
        f.withdraw(1);
        Check.same("hour of one gone", f.of(0, 'h'), 8);
    }

    private static void states() {
        Juryreel f = Stage.withChosen(10, 200);
        f.screen(1, true);
        f.show(1, 0, 2);
        f.show(0, 0, 1);
        Check.outside("state", f, () -> f.state(2));
        Check.outside("state -1", f, () -> f.state(-1));
        Check.same("to come", f.state(0), 't');
        f.go(1);
        Check.same("to come an hour before", f.state(0), 't');
        Check.same("one hour, now", f.state(1), 'n');
        f.go(1);
        Check.same("first hour", f.state(0), 'n');
        Check.same("one hour, over", f.state(1), 'o');
        f.go(1);
        Check.same("second hour", f.state(0), 'n');
        f.go(1);
        Check.same("over", f.state(0), 'o');
    }

    private static void at() {
        Juryreel f = Stage.withChosen(10, 200);
        f.screen(1, true);
        f.screen(1, true);
        f.show(1, 1, 2);
        Check.outside("at screen", f, () -> f.at(2, 50));
        Check.outside("at screen -1", f, () -> f.at(-1, 0));
        Check.illegal("at hour 50", f, () -> f.at(0, 50));
        Check.illegal("at hour -1", f, () -> f.at(0, -1));
        Check.missing("before", f, () -> f.at(1, 1));
        Check.missing("other screen", f, () -> f.at(0, 2));
        Check.same("first hour", f.at(1, 2), 0);
        Check.same("second hour", f.at(1, 3), 0);
        Check.missing("behind", f, () -> f.at(1, 4));
        f.show(0, 1, 20);
        f.go(10);
        Check.same("one that is over", f.at(1, 3), 0);
        Check.same("one to come", f.at(1, 20), 1);
        f.withdraw(0);
        Check.missing("one that is gone", f, () -> f.at(1, 20));
    }

    private static void hours() {
        Juryreel f = new Juryreel();
        Check.illegal("go 0", f, () -> f.go(0));
        Check.illegal("go -1", f, () -> f.go(-1));
        Check.illegal("go 51", f, () -> f.go(51));
        Check.illegal("go far", f, () -> f.go(Integer.MAX_VALUE));
        Check.same("go 49", f.go(49), 49);
        Check.same("now", f.now(), 49);
        Check.full("go above", f, () -> f.go(2));
        Check.full("go far above", f, () -> f.go(50));
        Check.same("go to the end", f.go(1), 50);
        Check.same("now at the end", f.now(), 50);
        Check.full("go behind the end", f, () -> f.go(1));
        Check.illegal("go 51 at the end", f, () -> f.go(51));
        Check.same("at once", new Juryreel().go(50), 50);
    }
}
