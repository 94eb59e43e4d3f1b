import java.util.ArrayList;
import java.util.List;

/** Each store of the document when it is empty, when it is full, and when it is asked for one more. */
public final class StoresTest {
    public static void main(String[] args) {
        films();
        readers();
        deals();
        readerOfAllFilms();
        sections();
        quotas();
        screens();
        keys();
        showsOneByOne();
        showsByPlan();
        showsByStorm();
        showsByLateness();
        storms();
        hours();
        passes();
        waiting();
        seats();
        jurors();
        ballots();
        typed();
        sold();
        checksumWrapsAround();
        allFull();
        questionsChangeNothing();
        toldChangesSomething();
        Check.end();
    }

    private static void films() {
        Juryreel f = new Juryreel();
        Check.outside("no films", f, () -> f.withdraw(0));
        for (int i = 0; i < 20; i++) {
            Check.same("film " + i, f.film('d', 1 + i, i % 10), i);
        }
        Check.full("film 20", f, () -> f.film('d', 1, 0));
        for (int i = 0; i < 20; i++) {
            Check.same("withdraw film " + i, f.withdraw(i), 0);
        }
        Check.full("withdrawn films keep their numbers", f, () -> f.film('d', 1, 0));
    }

    private static void readers() {
        Juryreel f = Stage.withFilms(1);
        Check.outside("no readers", f, () -> f.isDealt(0, 0));
        Check.refused("no readers to deal to", f, () -> f.deal(0, 1));
        for (int i = 0; i < 8; i++) {
            Check.same("reader " + i, f.reader(1 + i), i);
        }
        Check.full("reader 8", f, () -> f.reader(0));
        Check.same("dealt to all", f.deal(0, 8), 8);
        Check.refused("dealt to one more", f, () -> f.deal(0, 1));
    }

    private static void deals() {
        for (int free = 1; free <= 8; free++) {
            Juryreel f = Stage.withFilms(1);
            for (int i = 0; i < 8; i++) {
                f.reader(i < free ? 5 : 0);
            }
            for (int many = free + 1; many <= 8; many++) {
                int asked = many;
                Check.refused(many + " of " + free, f, () -> f.deal(0, asked));
            }
            Check.same("just " + free, f.deal(0, free), free);
            Check.refused("none of " + free + " is left", f, () -> f.deal(0, 1));
        }
    }

    private static void readerOfAllFilms() {
        Juryreel f = Stage.withFilms(20);
        f.reader(9);
        for (int i = 0; i < 20; i++) {
            Check.same("film " + i + " dealt", f.deal(i, 1), 1);
            Check.same("film " + i + " read", f.read(i, 0, 100), 1);
            Check.same("film " + i + " even", f.even(i, 0), 50);
        }
        Check.same("mean score of twenty", f.meanScore(), 50.0);
    }

    private static void sections() {
        Juryreel f = new Juryreel();
        Check.outside("no sections", f, () -> f.minutes(0));
        for (int i = 0; i < 5; i++) {
            Check.same("section " + i, f.section(1, 1, 0, '-', '-'), i);
        }
        Check.full("section 5", f, () -> f.section(1, 1, 0, '-', '-'));
    }

    private static void quotas() {
        for (int quota = 1; quota <= 9; quota++) {
            Juryreel f = Stage.withRead(10, 1);
            f.section(quota, 2000, 0, '-', '-');
            Check.same("empty", f.minutes(0), 0);
            Check.same("quota " + quota, f.choose(0), quota);
            Check.same("quota is full", f.choose(0), 0);
            Check.same("minutes", f.minutes(0), 10 * quota);
            f.withdraw(quota - 1);
            Check.same("one more behind a withdrawn one", f.choose(0), 1);
            Check.same("the next one", f.sectionOf(quota), 0);
            Check.same("full again", f.choose(0), 0);
        }
    }

    private static void screens() {
        Juryreel f = Stage.withFilms(1);
        Check.outside("no screens", f, () -> f.canShow(0, 0, 0));
        for (int i = 0; i < 4; i++) {
            Check.same("screen " + i, f.screen(9, true), i);
        }
        Check.full("screen 4", f, () -> f.screen(9, true));
    }

    private static void keys() {
        Juryreel f = Stage.addScreens(Stage.withFilms(1), 1);
        f.print(0, 'd', 0);
        Check.same("no keys", f.canShow(0, 0, 49), false);
        for (int i = 1; i <= 59; i++) {
            Check.same("key " + i, f.key(0, 0, i % 40, i % 40), i);
        }
        Check.same("no key of the last hour", f.canShow(0, 0, 49), false);
        Check.same("key 60", f.key(0, 0, 49, 49), 60);
        Check.same("the last key opens", f.canShow(0, 0, 49), true);
        Check.full("key 61", f, () -> f.key(0, 0, 48, 48));
        Check.same("key 61 opens nothing", f.canShow(0, 0, 48), false);
    }

    private static void showsOneByOne() {
        Juryreel f = Stage.withShows(0);
        Check.outside("no shows", f, () -> f.state(0));
        for (int i = 0; i < 60; i++) {
            Check.same("show " + i, f.show(i / 30, i / 30, 1 + i % 30), i);
        }
        Check.full("show 60", f, () -> f.show(0, 0, 40));
        f.withdraw(0);
        Check.same("shows gone keep their numbers", f.state(0), 'w');
        Check.full("show 60 after shows have gone", f, () -> f.show(1, 1, 40));
    }

    private static Juryreel withShowsAndTwoFilms(int shows) {
        Juryreel f = Stage.withShows(shows);
        Stage.addFilm(f, 2, 20, 0);
        Stage.addFilm(f, 3, 10, 0);
        f.section(2, 100, 0, '-', '-');
        f.choose(2);
        return f;
    }

    private static void showsByPlan() {
        Juryreel last = withShowsAndTwoFilms(58);
        Check.same("plan to just 60", last.plan(2), 2);
        Check.same("show 59", last.of(59, 'f'), 3);
        Check.same("film 2 is shown now", last.state(58), 'n');
        Check.full("film 2 would be the 61st", last, () -> last.plan(2));
        last.withdraw(2);
        Check.same("film 3 has one to come", last.plan(2), 0);
        Check.same("film 0 has one to come", last.plan(0), 0);
        Juryreel more = withShowsAndTwoFilms(59);
        Check.full("plan to 61", more, () -> more.plan(2));
        Check.outside("none is set", more, () -> more.state(59));
        more.print(2, 'd', 0);
        more.print(3, 'd', 0);
        Check.full("though none has a place", more, () -> more.plan(2));
        more.withdraw(2);
        Check.same("one that has no place", more.plan(2), 0);
        Check.outside("nor is it set", more, () -> more.state(59));
        Juryreel none = Stage.withSectionsOnly(1);
        Check.same("plan of no films", none.plan(0), 0);
    }

    private static void showsByStorm() {
        Juryreel f = Stage.withShows(54);
        Check.full("four and five to 63", f, () -> f.storm(1));
        f.withdraw(1);
        Check.same("five of film 0 to 59", f.storm(1), 5);
        Check.same("the last one", f.of(58, 'f'), 0);
        Check.full("five more to 64", f, () -> f.storm(2));
        Check.same("none on the last day", f.storm(9), 0);
        Juryreel just = Stage.withShows(55);
        just.withdraw(1);
        Check.same("five to just 60", just.storm(1), 5);
        Check.same("show 59", just.state(59), 't');
        Check.full("one more", just, () -> just.storm(6));
        Juryreel one = Stage.withShows(56);
        one.withdraw(1);
        Check.full("five to 61", one, () -> one.storm(1));
        one.go(5);
        Check.same("four to just 60, one being now", one.storm(1), 4);
        Check.same("show 59 of them", one.of(59, 'f'), 0);
    }

    private static void showsByLateness() {
        Juryreel just = Stage.withShows(57);
        Check.full("four to 61", just, () -> just.late(0, 5));
        Check.same("the print is there yet", just.canShow(0, 0, 0), true);
        Check.same("three to just 60", just.late(0, 4), 3);
        Check.same("show 59", just.of(59, 'f'), 0);
        Check.full("one more", just, () -> just.late(0, 5));
        Check.same("one that takes none", just.late(1, 1), 0);
    }

    private static void storms() {
        Juryreel f = Stage.addScreens(Stage.withChosen(10), 1);
        for (int i = 0; i < 9; i++) {
            Check.same("storm " + i, f.storm(i), 0);
        }
        Check.same("the last day is free", f.plan(0), 1);
        Check.same("its first hour", f.of(0, 'h'), 45);
        Check.same("storm 9", f.storm(9), 1);
        Check.outside("no day is left", f, () -> f.state(1));
        Check.same("no place for a plan", f.plan(0), 0);
        for (int i = 0; i < 10; i++) {
            int day = i;
            Check.refused("storm " + i + " again", f, () -> f.storm(day));
            Check.refused("no show on day " + i, f, () -> f.show(0, 0, 5 * day));
        }
    }

    private static void hours() {
        Juryreel f = new Juryreel();
        Check.same("at first", f.now(), 0);
        for (int i = 1; i <= 50; i++) {
            Check.same("hour " + i, f.go(1), i);
        }
        Check.full("hour 51", f, () -> f.go(1));
        Check.same("the end", f.now(), 50);
        for (int hour = 1; hour <= 50; hour++) {
            Juryreel g = new Juryreel();
            g.go(hour);
            int above = 51 - hour;
            Check.full("above from " + hour, g, () -> g.go(above));
            if (above > 1) {
                Check.same("to the end from " + hour, g.go(above - 1), 50);
            }
        }
    }

    private static void passes() {
        Juryreel f = Stage.withShows(1);
        Check.outside("no passes", f, () -> f.join(0, 0));
        for (int i = 0; i < 16; i++) {
            Check.same("pass " + i, f.pass(i % 4), i);
        }
        Check.full("pass 16", f, () -> f.pass(0));
    }

    private static void waiting() {
        Juryreel f = Stage.withShows(2);
        for (int i = 0; i < 16; i++) {
            f.pass(0);
        }
        Check.same("nobody waits", f.open(1), 0);
        for (int i = 0; i < 16; i++) {
            Check.same("waiting " + i, f.join(15 - i, 0), i + 1);
        }
        for (int i = 0; i < 16; i++) {
            int pass = i;
            Check.refused("waits already " + i, f, () -> f.join(pass, 0));
        }
        Check.same("nine seats for sixteen", f.open(0), 9);
        for (int i = 0; i < 16; i++) {
            Check.same("seat of " + i, f.hasSeat(i, 0), i >= 7);
        }
    }

    private static void seats() {
        for (int seats = 1; seats <= 9; seats++) {
            for (int many = seats - 1; many <= seats + 1; many++) {
                Juryreel f = Stage.withChosen(10);
                f.screen(seats, true);
                f.show(0, 0, 5);
                for (int i = 0; i < many; i++) {
                    f.pass(2);
                    f.join(i, 0);
                }
                Check.same(many + " for " + seats, f.open(0), Math.min(many, seats));
                for (int i = 0; i < many; i++) {
                    Check.same(many + " for " + seats + ", pass " + i, f.hasSeat(i, 0), i < seats);
                }
            }
        }
    }

    private static void jurors() {
        Juryreel f = Stage.withSectionsOnly(5);
        for (int section = 0; section < 5; section++) {
            int asked = section;
            Check.outside("no jurors of " + section, f, () -> f.rank(asked, 0));
            for (int i = 0; i < 5; i++) {
                Check.same("juror " + i + " of " + section, f.juror(section, i), i);
            }
            Check.full("juror 5 of " + section, f, () -> f.juror(asked, 0));
        }
    }

    private static void ballots() {
        Juryreel f = Stage.withJurors(5);
        for (int i = 0; i < 5; i++) {
            f.see(0, i, 0);
            f.type(0);
            Check.same("ballot " + i, f.rank(0, i), i + 1);
        }
        f.type(0);
        Check.same("one more takes a place that was taken", f.rank(0, 4), 5);
        Check.same("winner of five ballots", f.winner(0), 0);
    }

    private static void typed() {
        Juryreel f = Stage.withFilms(10);
        Check.same("none is typed", f.wipe(), 0);
        for (int i = 0; i < 9; i++) {
            Check.same("typed " + i, f.type(i), i + 1);
        }
        Check.full("typed 9", f, () -> f.type(9));
        Check.same("nine wiped", f.wipe(), 9);
        Check.same("none is left", f.wipe(), 0);
        nineOnABallot();
    }

    private static void nineOnABallot() {
        Juryreel f = Stage.addScreens(Stage.withChosen(10, 10, 10, 10, 10, 10, 10, 10, 10), 1);
        f.juror(0, 9);
        f.plan(0);
        for (int i = 0; i < 9; i++) {
            Check.same("seen " + i, f.see(0, 0, i), i + 1);
            f.go(1);
        }
        for (int i = 8; i > 0; i--) {
            f.type(i);
        }
        Check.refused("eight of nine", f, () -> f.rank(0, 0));
        f.type(0);
        Check.same("nine of nine", f.rank(0, 0), 1);
        Check.same("the first of nine", f.winner(0), 8);
        for (int i = 8; i > 0; i--) {
            f.withdraw(i);
            Check.same("behind " + i, f.winner(0), i - 1);
        }
    }

    private static void sold() {
        Juryreel f = Stage.withFilms(2);
        Check.missing("nothing is sold", f, () -> f.owner(0, 0, 0));
        for (int i = 0; i < 40; i++) {
            Check.same("deal " + i, f.sell(1, i % 10, i, i, i % 7), i + 1);
        }
        Check.full("deal 40", f, () -> f.sell(0, 0, 0, 0, 0));
        Check.same("the first one", f.owner(1, 0, 0), 0);
        Check.same("the last one", f.owner(1, 9, 39), 39 % 7);
        Check.missing("what was refused", f, () -> f.owner(0, 0, 0));
    }

    /** With sixty shows the sum has gone round many times; it is a long's, with the wrap-around that Java has. */
    private static void checksumWrapsAround() {
        Juryreel f = Stage.withShows(60);
        java.math.BigInteger sum = java.math.BigInteger.valueOf(7);
        for (int i = 0; i < 60; i++) {
            for (int part : new int[] {i / 30, i / 30 + 10 * (1 + i % 30), 't'}) {
                sum = sum.multiply(java.math.BigInteger.valueOf(31)).add(java.math.BigInteger.valueOf(part));
            }
            if (i == 5) {
                Check.same("six shows are beyond a long", sum.bitLength() > 64, true);
            }
        }
        Check.same("sum of sixty shows", f.checksum(), sum.longValue());
    }

    /** Twenty films that one reader of eight told 50 of, of which each of five sections has four, on four screens. */
    private static Juryreel withAllFull() {
        Juryreel f = Stage.withFilms(20);
        for (int i = 0; i < 8; i++) {
            f.reader(9);
        }
        for (int i = 0; i < 20; i++) {
            f.deal(i, 1);
            f.read(i, i % 8, 50);
            f.print(i, 'r', 0);
        }
        for (int i = 0; i < 5; i++) {
            f.section(4, 40, 0, '-', '-');
            f.choose(i);
            for (int j = 0; j < 5; j++) {
                f.juror(i, 9);
            }
        }
        Stage.addScreens(f, 4);
        for (int i = 0; i < 60; i++) {
            f.key(i % 20, i % 4, 0, 49);
            f.show(i / 15 * 4, i / 15, 1 + i % 15);
        }
        for (int i = 0; i < 16; i++) {
            f.pass(i % 4);
        }
        for (int i = 0; i < 40; i++) {
            f.sell(i % 20, i / 20, 0, 99, 9);
        }
        return f;
    }

    private static void allFull() {
        Juryreel f = withAllFull();
        Check.same("sound", f.isSound(), true);
        Check.same("four of twenty are shown", f.shownShare(), 4.0f / 20.0f);
        Check.same("mean of twenty", f.meanScore(), 50.0);
        Check.same("dealt to eight", f.deal(19, 7), 8);
        Check.refused("dealt to one more", f, () -> f.deal(19, 1));
        Check.same("score of the last one", f.score(19), 50);
        Check.same("no quarrel of the last one", f.isInQuarrel(19), false);
        Check.same("chosen of none", f.choose(4), 0);
        Check.same("minutes of the last section", f.minutes(4), 40);
        Check.full("plan of the last section", f, () -> f.plan(4));
        Check.missing("no place of the last screen", f, () -> f.at(3, 49));
        Check.same("the last show", f.at(3, 15), 59);
        Check.same("the last reel", f.canShow(19, 3, 49), true);
        Check.missing("no winner of the last section", f, () -> f.winner(4));
        Check.same("the last deal", f.owner(19, 1, 99), 9);
        Check.same("none to come on the last day", f.storm(9), 0);
        Check.same("the last pass", f.join(15, 59), 1);
        Check.same("its seat", f.open(59), 1);
        f.go(15);
        Check.same("the last juror", f.see(3, 4, 59), 1);
        Check.refused("of a section with more films", f, () -> f.rank(3, 4));
        Check.same("a film of the last section", f.withdraw(19), 0);
        Check.missing("has none", f, () -> f.sectionOf(19));
        Check.same("sound at the end", f.isSound(), true);
    }

    private static Juryreel withAll() {
        Juryreel f = Stage.withShows(6);
        f.juror(0, 9);
        f.pass(0);
        f.join(0, 0);
        f.open(0);
        f.go(1);
        f.see(0, 0, 0);
        f.type(0);
        f.rank(0, 0);
        f.type(0);
        f.sell(0, 0, 0, 0, 3);
        return f;
    }

    private static void questionsChangeNothing() {
        Juryreel f = withAll();
        List<Check.Call> calls = List.of(() -> f.isDealt(0, 0), () -> f.even(0, 0), () -> f.score(0),
            () -> f.isInQuarrel(0), () -> f.sectionOf(0), () -> f.minutes(0), () -> f.isBroken(0),
            () -> f.canShow(0, 0, 0), () -> f.of(0, 'f'), () -> f.state(0), () -> f.at(0, 1), f::now,
            () -> f.hasSeat(0, 0), () -> f.winner(0), () -> f.owner(0, 0, 0), () -> f.line(0, true),
            f::checksum, f::shownShare, f::meanScore, f::isSound);
        String before = Held.of(f);
        for (int i = 0; i < calls.size(); i++) {
            Object answer = Check.answer(calls.get(i));
            Check.same("question " + i + " is answered", answer instanceof String, false);
            Check.same("question " + i + " changes nothing", Held.of(f).equals(before), true);
            Check.same("question " + i + " again", Check.answer(calls.get(i)), answer);
        }
    }

    /** That Held sees what calls change, by which the checks that a refusal changes nothing are worth something. */
    private static void toldChangesSomething() {
        Juryreel f = withAll();
        List<Check.Call> calls = new ArrayList<>(List.of(() -> f.film('f', 10, 0), () -> f.reader(0), () -> f.deal(2, 1),
            () -> f.read(2, 0, 50), () -> f.rival(2, 'a'), () -> f.section(1, 100, 0, '-', 'l'), () -> f.choose(2),
            () -> f.giveUp(2), () -> f.screen(1, true), () -> f.print(2, 'd', 0)));
        calls.addAll(List.of(() -> f.key(2, 2, 30, 40), () -> f.show(2, 2, 30), () -> f.go(1), () -> f.storm(9),
            () -> f.late(2, 5), () -> f.pass(3), () -> f.join(1, 4), () -> f.open(4), () -> f.juror(1, 0),
            () -> f.rule(0, 'b')));
        calls.addAll(List.of(() -> f.see(0, 0, 1), () -> f.type(0), () -> f.wipe(), () -> f.award(0),
            () -> f.sell(1, 0, 0, 0, 0), () -> f.plan(0), () -> f.withdraw(2)));
        for (int i = 0; i < calls.size(); i++) {
            String before = Held.of(f);
            Object answer = Check.answer(calls.get(i));
            Check.same("call " + i + " answers " + answer, answer instanceof String, false);
            boolean isPlan = i == calls.size() - 2;
            Check.same("call " + i + " changes something", Held.of(f).equals(before), isPlan);
        }
    }
}
