/** Promises 31 to 34: passes and seats. */
public final class PassesTest {
    public static void main(String[] args) {
        passes();
        joins();
        opens();
        ranks();
        leavesOutThoseSeated();
        seatsOfShowsGone();
        Check.end();
    }

    private static void passes() {
        Juryreel f = new Juryreel();
        Check.illegal("rank -1", f, () -> f.pass(-1));
        Check.illegal("rank 4", f, () -> f.pass(4));
        for (int i = 0; i < 16; i++) {
            Check.same("pass " + i, f.pass(i % 4), i);
        }
        Check.full("pass 16", f, () -> f.pass(0));
        Check.illegal("pass 16 of no rank", f, () -> f.pass(4));
    }

    private static void joins() {
        Juryreel f = Stage.withChosen(10, 20);
        f.screen(1, true);
        for (int i = 0; i < 3; i++) {
            f.pass(0);
        }
        f.show(0, 0, 0);
        f.show(0, 0, 1);
        f.show(1, 0, 2);
        Check.outside("join pass", f, () -> f.join(3, 0));
        Check.outside("join pass -1", f, () -> f.join(-1, 1));
        Check.outside("join show", f, () -> f.join(0, 3));
        Check.outside("join show -1", f, () -> f.join(0, -1));
        Check.refused("one that is now", f, () -> f.join(0, 0));
        Check.same("first", f.join(0, 1), 1);
        Check.same("second", f.join(1, 1), 2);
        Check.refused("twice", f, () -> f.join(0, 1));
        Check.same("another show", f.join(0, 2), 1);
        f.open(1);
        Check.refused("opened", f, () -> f.join(2, 1));
        f.withdraw(1);
        Check.refused("gone", f, () -> f.join(2, 2));
        f.go(3);
        Check.refused("over", f, () -> f.join(2, 0));
    }

    private static void opens() {
        Juryreel f = Stage.withChosen(200, 10, 10);
        f.screen(9, true);
        f.pass(0);
        f.show(0, 0, 0);
        f.show(1, 0, 2);
        f.show(1, 0, 3);
        f.show(0, 0, 5);
        f.show(2, 0, 9);
        f.show(2, 0, 10);
        Check.outside("open", f, () -> f.open(6));
        Check.outside("open -1", f, () -> f.open(-1));
        Check.same("now, by its first hour", f.open(0), 0);
        Check.same("line", f.line(0, false), (int) 'o');
        Check.same("line's film", f.line(0, true), 0);
        Check.refused("once", f, () -> f.open(0));
        Check.same("to come", f.open(2), 0);
        Check.same("to come, the film", f.line(0, true), 1);
        Check.refused("once too", f, () -> f.open(2));
        f.go(3);
        Check.refused("over", f, () -> f.open(1));
        f.go(3);
        Check.same("the second hour of two", f.state(3), 'n');
        Check.refused("its first hour is before", f, () -> f.open(3));
        f.withdraw(2);
        Check.refused("gone", f, () -> f.open(4));
    }

    private static void ranks() {
        Juryreel f = Stage.withChosen(10);
        f.screen(3, true);
        int[] ranks = {3, 1, 0, 1, 1, 3};
        for (int i = 0; i < ranks.length; i++) {
            f.pass(ranks[i]);
        }
        f.show(0, 0, 5);
        int[] waiting = {0, 4, 5, 3, 1, 2};
        for (int i = 0; i < waiting.length; i++) {
            Check.same("waiting " + i, f.join(waiting[i], 0), i + 1);
        }
        Check.outside("hasSeat pass", f, () -> f.hasSeat(6, 0));
        Check.outside("hasSeat pass -1", f, () -> f.hasSeat(-1, 0));
        Check.outside("hasSeat show", f, () -> f.hasSeat(0, 1));
        Check.outside("hasSeat show -1", f, () -> f.hasSeat(0, -1));
        Check.same("no seats before", f.hasSeat(2, 0), false);
        Check.same("three seats", f.open(0), 3);
        boolean[] due = {false, false, true, true, true, false};
        for (int i = 0; i < due.length; i++) {
            Check.same("seat of " + i, f.hasSeat(i, 0), due[i]);
        }
        f.show(0, 0, 6);
        f.join(0, 1);
        f.join(1, 1);
        Check.same("rank 3 has a seat where there is room", f.open(1), 2);
        Check.same("the seat", f.hasSeat(0, 1), true);
    }

    private static void leavesOutThoseSeated() {
        Juryreel f = Stage.withSections(200, 10, 200, 10);
        for (int i = 0; i < 4; i++) {
            f.screen(1, true);
        }
        f.pass(0);
        f.pass(1);
        f.show(0, 0, 6);
        f.show(1, 1, 7);
        f.show(2, 2, 7);
        f.show(3, 3, 8);
        for (int i = 0; i < 4; i++) {
            f.join(0, i);
            f.join(1, i);
        }
        Check.same("the first", f.open(0), 1);
        Check.same("to the lower rank", f.hasSeat(0, 0), true);
        Check.same("in its second hour", f.open(1), 1);
        Check.same("left out", f.hasSeat(0, 1), false);
        Check.same("the next one has it", f.hasSeat(1, 1), true);
        Check.same("both have a seat in hour 7", f.open(2), 0);
        Check.same("hour 8 is free for both", f.open(3), 1);
        Check.same("of the lower rank", f.hasSeat(0, 3), true);
        Check.same("sound", f.isSound(), true);
    }

    private static void seatsOfShowsGone() {
        Juryreel f = Stage.withSections(10, 10);
        f.screen(1, true);
        f.screen(1, true);
        f.pass(0);
        f.show(0, 0, 6);
        f.show(1, 1, 6);
        f.join(0, 0);
        f.join(0, 1);
        f.open(0);
        f.withdraw(0);
        Check.same("a seat at a show gone is no hindrance", f.open(1), 1);
        Check.same("the seat of the show gone was given", f.hasSeat(0, 0), true);
        Check.same("sound", f.isSound(), true);
    }
}
