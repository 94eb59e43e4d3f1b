/** The three examples at the end of "Terms". */
public final class ExamplesTest {
    public static void main(String[] args) {
        first();
        second();
        third();
        Check.end();
    }

    private static void first() {
        Juryreel f = new Juryreel();
        Check.same("film", f.film('f', 90, 1), 0);
        Check.same("reader", f.reader(2), 0);
        Check.same("deal", f.deal(0, 1), 1);
        Check.same("read", f.read(0, 0, 70), 1);
        Check.same("score", f.score(0), 50);
        Check.same("section", f.section(3, 500, 0, '-', 'w'), 0);
        Check.same("choose", f.choose(0), 1);
    }

    private static void second() {
        Juryreel f = new Juryreel();
        Check.same("film", f.film('s', 20, 1), 0);
        Check.same("screen", f.screen(2, true), 0);
        Check.same("print", f.print(0, 'r', 3), false);
        Check.same("canShow before", f.canShow(0, 0, 2), false);
        Check.same("canShow then", f.canShow(0, 0, 3), true);
    }

    private static void third() {
        Juryreel f = new Juryreel();
        Check.same("film", f.film('d', 60, 1), 0);
        Check.same("sell", f.sell(0, 4, 2, 5, 1), 1);
        Check.same("owner", f.owner(0, 4, 3), 1);
        Check.same("line", f.line(0, true), 0);
    }
}
