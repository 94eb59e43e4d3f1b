/** The sentences of "Terms" that name a boundary, in their order up to the grid: at it, just below and just above it. */
public final class TermsTest {
    public static void main(String[] args) {
        conflictIsOfTheSameLand();
        dealtTheFewestFilms();
        dealtToThoseWhoHaveItNot();
        oneScoreOfEachFilm();
        meanIsCut();
        meanIsByNow();
        scoreIsCutTowardZero();
        quarrelIsMoreThanThirty();
        quarrelOfOneOrNone();
        whatAFilmStillIs();
        ownShowsAside();
        premieresAreAtLeastTheLeast();
        leastScore();
        budget();
        formFits();
        higherScoresThenLowerNumbers();
        chosenStays();
        promiseIsBroken();
        fiveHoursADay();
        printComesByTheHour();
        newPrint();
        keyOpensOneScreenAtSomeHours();
        reelsAndDrives();
        Check.end();
    }

    private static void conflictIsOfTheSameLand() {
        for (int land = 0; land <= 9; land++) {
            Juryreel f = new Juryreel();
            f.film('f', 10, land);
            f.reader(land);
            Check.refused("a reader of land " + land, f, () -> f.deal(0, 1));
            f.reader(land == 9 ? 8 : land + 1);
            Check.same("a reader of the next land", f.deal(0, 1), 1);
            Check.same("conflict of land " + land, f.isDealt(0, 0), false);
            Check.same("no conflict with land " + land, f.isDealt(0, 1), true);
        }
    }

    private static Juryreel withReaders(int films, int... lands) {
        Juryreel f = Stage.withFilms(films);
        for (int land : lands) {
            f.reader(land);
        }
        return f;
    }

    private static void whoHas(String what, Juryreel f, int film, String due) {
        for (int i = 0; i < due.length(); i++) {
            Check.same(what + ", reader " + i, f.isDealt(film, i), due.charAt(i) == '1');
        }
    }

    private static void dealtTheFewestFilms() {
        Juryreel f = withReaders(7, 9, 9, 9);
        f.deal(0, 1);
        whoHas("of like ones the lowest", f, 0, "100");
        f.deal(1, 1);
        whoHas("one has one, two have none", f, 1, "010");
        f.deal(2, 2);
        whoHas("the third has none, the first one", f, 2, "101");
        f.deal(3, 2);
        whoHas("the first has two, the others one", f, 3, "011");
        f.deal(4, 3);
        whoHas("all of them", f, 4, "111");
        f.deal(5, 1);
        whoHas("all have three", f, 5, "100");
        f.withdraw(5);
        f.deal(6, 2);
        whoHas("a withdrawn film counts", f, 6, "011");
    }

    private static void dealtToThoseWhoHaveItNot() {
        Juryreel f = withReaders(3, 9, 9);
        f.deal(1, 1);
        f.deal(2, 1);
        Check.same("first of two", f.deal(0, 1), 1);
        whoHas("first of two", f, 0, "10");
        Check.same("second of two, though the first has as few", f.deal(0, 1), 2);
        Check.refused("third of two", f, () -> f.deal(0, 1));
    }

    private static void oneScoreOfEachFilm() {
        Juryreel f = withReaders(2, 9, 9);
        f.deal(0, 2);
        f.deal(1, 2);
        Check.same("first", f.read(0, 0, 50), 1);
        Check.refused("again", f, () -> f.read(0, 0, 51));
        Check.same("of another film", f.read(1, 0, 50), 1);
        Check.same("of another reader", f.read(0, 1, 50), 2);
    }

    /** Scores of one reader; the mean of 1, 2 and 2 is cut to 1, that of 2, 2 and 2 is 2. */
    private static void meanIsCut() {
        int[][] scores = {{0}, {0, 1}, {1, 2, 2}, {2, 2, 2}, {99, 100}, {100, 100}, {0, 99}, {1, 0, 0}};
        int[] means = {0, 0, 1, 2, 99, 100, 49, 0};
        for (int i = 0; i < scores.length; i++) {
            Juryreel f = withReaders(scores[i].length, 9);
            for (int film = 0; film < scores[i].length; film++) {
                f.deal(film, 1);
                f.read(film, 0, scores[i][film]);
            }
            for (int film = 0; film < scores[i].length; film++) {
                Check.same("even " + i + " of " + film, f.even(film, 0), scores[i][film] - means[i] + 50);
                Check.same("score " + i + " of " + film, f.score(film), scores[i][film] - means[i] + 50);
            }
        }
    }

    private static void meanIsByNow() {
        Juryreel f = withReaders(3, 9);
        for (int i = 0; i < 3; i++) {
            f.deal(i, 1);
        }
        f.read(0, 0, 60);
        Check.same("60 of 60", f.even(0, 0), 50);
        f.read(1, 0, 40);
        Check.same("60 of 100", f.even(0, 0), 60);
        f.read(2, 0, 0);
        Check.same("60 of 100, three", f.even(0, 0), 77);
        Check.same("0 of 100, three", f.even(2, 0), 17);
        f.reader(8);
        f.deal(0, 1);
        f.read(0, 1, 7);
        Check.same("another reader's mean is another", f.even(0, 1), 50);
        Check.same("and is nothing to the first one's", f.even(0, 0), 77);
    }

    /** Two readers tell 0 of film 0 and so much of all others that its even scores are far below 0. */
    private static void scoreIsCutTowardZero() {
        Juryreel f = withReaders(20, 9, 9);
        for (int i = 0; i < 20; i++) {
            f.deal(i, 2);
            f.read(i, 0, i == 0 ? 0 : 100);
            f.read(i, 1, i == 0 ? 0 : i < 3 ? 90 : 100);
        }
        Check.same("95 below the middle", f.even(0, 0), -45);
        Check.same("94 below the middle", f.even(0, 1), -44);
        Check.same("-44.5 is cut to -44", f.score(0), -44);
        Juryreel g = withReaders(2, 9, 9);
        for (int i = 0; i < 2; i++) {
            g.deal(i, 2);
            g.read(i, 0, 50 + i);
            g.read(i, 1, 50);
        }
        Check.same("50 and 50", g.score(0), 50);
        Check.same("51 and 50 are cut to 50", g.score(1), 50);
    }

    /** Two readers; the first told 50 and the one less that much below it, the mean being even for both. */
    private static Juryreel withSpread(int above) {
        Juryreel f = withReaders(2, 9, 9);
        f.deal(0, 2);
        f.deal(1, 2);
        f.read(0, 0, 50 + above);
        f.read(1, 0, 50);
        f.read(0, 1, 50);
        f.read(1, 1, 50 + above);
        return f;
    }

    private static void quarrelIsMoreThanThirty() {
        for (int above = 28; above <= 33; above++) {
            Juryreel f = withSpread(above);
            int spread = f.even(0, 0) - f.even(0, 1);
            Check.same("apart by " + above, spread, above);
            Check.same("quarrel by " + above, f.isInQuarrel(0), above > 30);
            Check.same("the other way round by " + above, f.isInQuarrel(1), above > 30);
            f.section(9, 100, 0, '-', '-');
            Check.same("chosen by " + above, f.choose(0), above > 30 ? 0 : 2);
        }
        Check.same("15 above and 15 below the middle one", isInQuarrelBy(50, 65, 35), false);
        Check.same("16 above and 15 below the middle one", isInQuarrelBy(50, 66, 35), true);
        Check.same("31 above the two least", isInQuarrelBy(65, 34, 34), true);
        Check.same("30 above the two least", isInQuarrelBy(64, 34, 34), false);
    }

    /** Three readers whose means are 50, so that what they tell is even. */
    private static boolean isInQuarrelBy(int... told) {
        Juryreel f = withReaders(2, 9, 9, 9);
        f.deal(0, 3);
        f.deal(1, 3);
        for (int i = 0; i < 3; i++) {
            f.read(0, i, told[i]);
            f.read(1, i, 100 - told[i]);
            Check.same("told evenly", f.even(0, i), told[i]);
        }
        return f.isInQuarrel(0);
    }

    private static void quarrelOfOneOrNone() {
        Juryreel f = withReaders(1, 9, 9);
        Check.same("not dealt", f.isInQuarrel(0), false);
        f.deal(0, 2);
        Check.same("no score", f.isInQuarrel(0), false);
        f.read(0, 0, 100);
        Check.same("one score", f.isInQuarrel(0), false);
        f.read(0, 1, 0);
        Check.same("100 and 0, even both", f.isInQuarrel(0), false);
        Juryreel untold = withReaders(2, 9, 9);
        untold.deal(0, 2);
        untold.deal(1, 2);
        untold.read(0, 0, 50);
        untold.read(1, 1, 100);
        Check.same("the other one told no score of it", untold.isInQuarrel(0), false);
        Check.same("nor has the score of one more than one", untold.score(0), 50);
    }

    private static void whatAFilmStillIs() {
        String[] told = {"a", "l", "t", "al", "la", "at", "ta", "lt", "tl", "aa", "ll", "tt", "alt", "tla"};
        String due = "lt-tt----" + "lt---";
        for (int i = 0; i < told.length; i++) {
            Juryreel f = Stage.withFilms(1);
            char still = 'w';
            for (char where : told[i].toCharArray()) {
                still = f.rival(0, where);
            }
            Check.same("told " + told[i], still, due.charAt(i));
        }
    }

    private static void ownShowsAside() {
        Juryreel f = Stage.addScreens(Stage.withChosenFor(1, 'w'), 1);
        f.print(0, 'r', 0);
        f.show(0, 0, 0);
        f.go(1);
        Check.same("an own show is over", f.state(0), 'o');
        Check.same("and breaks nothing", f.isBroken(0), false);
        Check.same("nor makes it less", f.rival(0, 'a'), 'l');
    }

    private static Juryreel withStill(char still) {
        Juryreel f = Stage.withRead(1, 1);
        if (still != 'w') {
            f.rival(0, still == 'l' ? 'a' : still == 't' ? 'l' : 't');
        }
        return f;
    }

    private static void premieresAreAtLeastTheLeast() {
        String order = "-tlw";
        for (int still = 0; still < 4; still++) {
            for (int least = 0; least < 4; least++) {
                Juryreel f = withStill(order.charAt(still));
                f.section(1, 10, 0, '-', order.charAt(least));
                int due = still >= least ? 1 : 0;
                Check.same(order.charAt(still) + " for " + order.charAt(least), f.choose(0), due);
            }
        }
    }

    /** Two films of one reader, who told 30 and 50. */
    private static void leastScore() {
        for (int least = 0; least <= 100; least++) {
            Juryreel f = withReaders(2, 9);
            f.deal(0, 1);
            f.deal(1, 1);
            f.read(0, 0, 30);
            f.read(1, 0, 50);
            f.section(2, 100, least, '-', '-');
            Check.same("40 and 60 for " + least, f.choose(0), least <= 40 ? 2 : least <= 60 ? 1 : 0);
        }
        Juryreel far = withReaders(20, 9);
        for (int i = 0; i < 20; i++) {
            far.deal(i, 1);
            far.read(i, 0, i == 0 ? 0 : 100);
        }
        far.section(9, 2000, 0, '-', '-');
        far.section(9, 2000, 0, '-', '-');
        far.section(9, 2000, 0, '-', '-');
        Check.same("nine of nineteen", far.choose(0) + far.choose(1), 18);
        Check.same("the last one above 0", far.choose(2), 1);
        Check.missing("a score below 0 is below the least least one", far, () -> far.sectionOf(0));
    }

    private static void budget() {
        for (int budget = 1; budget <= 32; budget++) {
            Juryreel f = new Juryreel();
            f.reader(9);
            for (int minutes : new int[] {20, 11, 1}) {
                f.film('f', minutes, 0);
            }
            for (int i = 0; i < 3; i++) {
                f.deal(i, 1);
                f.read(i, 0, 50);
            }
            f.section(9, budget, 0, '-', '-');
            f.choose(0);
            int left = budget >= 20 ? budget - 20 : budget;
            left = left >= 11 ? left - 11 : left;
            left = left >= 1 ? left - 1 : left;
            Check.same("20, 11 and 1 for " + budget, f.minutes(0), budget - left);
        }
        Juryreel just = Stage.withChosen(300, 300, 300, 300, 300, 300, 200);
        Check.same("just 2000", just.minutes(0), 2000);
        Juryreel above = Stage.withChosen(300, 300, 300, 300, 300, 300, 201);
        Check.same("2001 is above", above.minutes(0), 1800);
    }

    private static void formFits() {
        for (char form : "fsd".toCharArray()) {
            for (char asked : "fsd-".toCharArray()) {
                Juryreel f = new Juryreel();
                f.reader(9);
                f.film(form, 10, 0);
                f.deal(0, 1);
                f.read(0, 0, 50);
                f.section(1, 10, 0, asked, '-');
                Check.same(form + " for " + asked, f.choose(0), asked == '-' || asked == form ? 1 : 0);
            }
        }
    }

    private static void higherScoresThenLowerNumbers() {
        int[] scores = {50, 51, 49, 51, 50, 49};
        int[] due = {1, 3, 0, 4, 2, 5};
        for (int quota = 1; quota <= 6; quota++) {
            Juryreel f = withReaders(6, 9);
            for (int i = 0; i < 6; i++) {
                f.deal(i, 1);
                f.read(i, 0, scores[i]);
            }
            f.section(quota, 100, 0, '-', '-');
            Check.same("quota " + quota, f.choose(0), quota);
            for (int i = 0; i < quota; i++) {
                Check.same("quota " + quota + ", film " + i, f.line(quota - 1 - i, true), due[i]);
            }
        }
    }

    private static void chosenStays() {
        Juryreel f = withSpread(10);
        f.section(2, 100, 0, '-', 'w');
        f.section(2, 100, 0, '-', '-');
        Check.same("two chosen", f.choose(0), 2);
        f.rival(0, 't');
        f.reader(9);
        f.deal(0, 1);
        f.read(0, 2, 100);
        Check.same("chosen once", f.choose(0) + f.choose(1), 0);
        Check.same("stays, though it is less", f.sectionOf(0), 0);
        f.withdraw(0);
        Check.missing("until it is withdrawn", f, () -> f.sectionOf(0));
        Check.same("its promise is gone", f.isBroken(0), false);
        Check.same("and it is never chosen again", f.choose(1), 0);
    }

    private static void promiseIsBroken() {
        String order = "-tlw";
        for (int least = 0; least < 4; least++) {
            for (int still = 0; still < 4; still++) {
                Juryreel f = withStill('w');
                f.section(1, 10, 0, '-', order.charAt(least));
                f.choose(0);
                Check.same("kept at first", f.isBroken(0), false);
                if (still < 3) {
                    f.rival(0, "tla".charAt(still));
                }
                String what = order.charAt(least) + " by " + order.charAt(still);
                Check.same(what, f.isBroken(0), still < least);
                if (least > 0) {
                    Check.same(what + " given up", f.giveUp(0), order.charAt(least));
                    Check.same(what + " is nothing then", f.isBroken(0), false);
                }
            }
        }
    }

    private static void fiveHoursADay() {
        for (int day = 0; day < 10; day++) {
            for (int hour = 0; hour < 50; hour += 49 / 7) {
                Juryreel f = Stage.addScreens(Stage.withChosen(10), 1);
                f.storm(day);
                String what = "hour " + hour + " by a storm on day " + day;
                Object due = hour / 5 == day ? "UnsupportedOperationException" : (Object) 0;
                int asked = hour;
                Check.same(what, Check.answer(() -> f.show(0, 0, asked)), due);
            }
        }
    }

    private static void printComesByTheHour() {
        for (char kind : "rd".toCharArray()) {
            for (int comes : new int[] {0, 1, 24, 48, 49}) {
                Juryreel f = Stage.addScreens(Stage.withFilms(1), 1);
                f.key(0, 0, 0, 49);
                f.print(0, kind, comes);
                for (int hour = 0; hour < 50; hour++) {
                    Check.same(kind + " of " + comes + " at " + hour, f.canShow(0, 0, hour), hour >= comes);
                }
            }
        }
    }

    private static void newPrint() {
        Juryreel f = Stage.addScreens(Stage.withChosen(10), 1);
        f.screen(1, false);
        f.show(0, 0, 5);
        Check.same("in place of a reel", f.print(0, 'd', 49), true);
        Check.same("the show that is set stays", f.state(0), 't');
        Check.same("the drive has not come", f.canShow(0, 0, 48), false);
        f.key(0, 1, 49, 49);
        Check.same("the drive on its screen", f.canShow(0, 1, 49), true);
        Check.same("in place of a drive", f.print(0, 'r', 1), true);
        Check.same("no drive any more", f.canShow(0, 1, 49), false);
        Check.same("a reel not come", f.canShow(0, 0, 0), false);
        Check.same("a reel again", f.canShow(0, 0, 1), true);
        Check.same("of another film", f.film('f', 10, 0), 1);
        Check.same("there was none", f.print(1, 'r', 0), false);
    }

    private static void keyOpensOneScreenAtSomeHours() {
        int[][] spans = {{0, 0}, {0, 49}, {49, 49}, {10, 20}, {10, 10}};
        for (int[] span : spans) {
            Juryreel f = Stage.addScreens(Stage.withFilms(2), 2);
            f.print(0, 'd', 0);
            f.print(1, 'd', 0);
            f.key(0, 1, span[0], span[1]);
            for (int hour = 0; hour < 50; hour++) {
                boolean due = hour >= span[0] && hour <= span[1];
                Check.same("key " + span[0] + " to " + span[1] + " at " + hour, f.canShow(0, 1, hour), due);
                Check.same("another screen at " + hour, f.canShow(0, 0, hour), false);
                Check.same("another film at " + hour, f.canShow(1, 1, hour), false);
            }
        }
    }

    private static void reelsAndDrives() {
        for (int i = 0; i < 8; i++) {
            boolean isReel = (i & 1) != 0;
            boolean hasGear = (i & 2) != 0;
            boolean hasKey = (i & 4) != 0;
            Juryreel f = Stage.withFilms(1);
            f.screen(1, hasGear);
            f.print(0, isReel ? 'r' : 'd', 0);
            if (hasKey) {
                f.key(0, 0, 0, 49);
            }
            String what = (isReel ? "reel" : "drive") + (hasGear ? ", gear" : "") + (hasKey ? ", key" : "");
            Check.same(what, f.canShow(0, 0, 5), isReel ? hasGear : hasKey);
        }
    }
}
