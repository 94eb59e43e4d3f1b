/** Promises 17 to 20: screens, prints, keys and what can be shown. */
public final class PrintsTest {
    public static void main(String[] args) {
        screens();
        prints();
        keys();
        canShow();
        newPrintTakesThePlace();
        Check.end();
    }

    private static void screens() {
        Juryreel f = new Juryreel();
        Check.illegal("seats 0", f, () -> f.screen(0, true));
        Check.illegal("seats 10", f, () -> f.screen(10, true));
        for (int i = 0; i < 4; i++) {
            Check.same("screen " + i, f.screen(i == 0 ? 1 : 9, i % 2 == 0), i);
        }
        Check.full("screen 4", f, () -> f.screen(1, true));
        Check.illegal("screen 4 without seats", f, () -> f.screen(0, true));
    }

    private static void prints() {
        Juryreel f = new Juryreel();
        f.film('f', 10, 0);
        Check.outside("print film", f, () -> f.print(1, 'x', 50));
        Check.outside("print film -1", f, () -> f.print(-1, 'r', 0));
        Check.illegal("print kind", f, () -> f.print(0, 'x', 0));
        Check.illegal("print hour -1", f, () -> f.print(0, 'r', -1));
        Check.illegal("print hour 50", f, () -> f.print(0, 'r', 50));
        Check.same("first", f.print(0, 'r', 0), false);
        Check.same("second", f.print(0, 'd', 49), true);
        Check.same("third", f.print(0, 'd', 1), true);
    }

    private static void keys() {
        Juryreel f = new Juryreel();
        f.film('f', 10, 0);
        f.screen(1, false);
        Check.outside("key film", f, () -> f.key(1, 0, 50, 50));
        Check.outside("key film -1", f, () -> f.key(-1, 0, 0, 0));
        Check.outside("key screen", f, () -> f.key(0, 1, 50, 50));
        Check.outside("key screen -1", f, () -> f.key(0, -1, 0, 0));
        Check.illegal("key from -1", f, () -> f.key(0, 0, -1, 5));
        Check.illegal("key to 50", f, () -> f.key(0, 0, 0, 50));
        Check.illegal("key from 50", f, () -> f.key(0, 0, 50, 50));
        Check.illegal("key to less", f, () -> f.key(0, 0, 6, 5));
        for (int i = 1; i <= 60; i++) {
            Check.same("key " + i, f.key(0, 0, i == 1 ? 0 : 49, 49), i);
        }
        Check.full("key 61", f, () -> f.key(0, 0, 1, 2));
        Check.illegal("key 61 with no hours", f, () -> f.key(0, 0, 2, 1));
        f.print(0, 'd', 0);
        Check.same("the first key opens", f.canShow(0, 0, 3), true);
    }

    private static void canShow() {
        Juryreel f = new Juryreel();
        f.film('f', 10, 0);
        f.film('f', 10, 0);
        f.screen(1, true);
        f.screen(1, false);
        Check.outside("canShow film", f, () -> f.canShow(2, 0, 50));
        Check.outside("canShow film -1", f, () -> f.canShow(-1, 0, 0));
        Check.outside("canShow screen", f, () -> f.canShow(0, 2, 50));
        Check.outside("canShow screen -1", f, () -> f.canShow(0, -1, 0));
        Check.illegal("canShow hour -1", f, () -> f.canShow(0, 0, -1));
        Check.illegal("canShow hour 50", f, () -> f.canShow(0, 0, 50));
        Check.same("no print", f.canShow(0, 0, 49), false);
        f.print(0, 'r', 7);
        Check.same("not come", f.canShow(0, 0, 6), false);
        Check.same("come", f.canShow(0, 0, 7), true);
        Check.same("later", f.canShow(0, 0, 49), true);
        Check.same("no gear", f.canShow(0, 1, 7), false);
        f.print(1, 'd', 4);
        f.key(1, 1, 3, 6);
        f.key(1, 1, 9, 9);
        f.key(0, 1, 20, 30);
        Check.same("drive not come", f.canShow(1, 1, 3), false);
        Check.same("drive come", f.canShow(1, 1, 4), true);
        Check.same("key's last hour", f.canShow(1, 1, 6), true);
        Check.same("behind the key", f.canShow(1, 1, 7), false);
        Check.same("before the second key", f.canShow(1, 1, 8), false);
        Check.same("second key", f.canShow(1, 1, 9), true);
        Check.same("key of another film", f.canShow(1, 1, 25), false);
        Check.same("key of another screen", f.canShow(1, 0, 4), false);
        Check.same("a key opens no reel", f.canShow(0, 1, 25), false);
        f.go(20);
        Check.same("the present hour is nothing to it", f.canShow(0, 0, 7), true);
    }

    private static void newPrintTakesThePlace() {
        Juryreel f = Stage.withChosen(10);
        f.screen(1, true);
        f.screen(1, false);
        f.show(0, 0, 3);
        Check.same("there was one", f.print(0, 'd', 10), true);
        f.key(0, 1, 0, 49);
        Check.same("shows stay", f.state(0), 't');
        Check.same("reel is gone", f.canShow(0, 0, 20), false);
        Check.same("drive not come", f.canShow(0, 1, 9), false);
        Check.same("drive", f.canShow(0, 1, 10), true);
    }
}
