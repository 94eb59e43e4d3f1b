/** The sentences of "Terms" on the grid, changes, passes, juries, rights and the archive, at their boundaries. */
public final class TermsOfGridTest {
    public static void main(String[] args) {
        lengths();
        notBeforeThePresentHour();
        onOneDay();
        screenIsFree();
        ownShowsElsewhere();
        showsOfTheSection();
        shownInEachHour();
        planOfThoseWithNoneToCome();
        planLongerFirst();
        planFirstHourThenLowestScreen();
        statesByTheHour();
        stormTakesThoseToComeOnTheDay();
        lateTakesThoseBefore();
        lateOfAKind();
        anewFromThePresentHour();
        anewByNumbers();
        waitingMovesInOrder();
        waitsForOneToCome();
        opensByItsFirstHour();
        leftOutInOneOfItsHours();
        seesWhatIsNow();
        seesOneShowAnHour();
        moreThanHalf();
        months();
        linesByLetter();
        sharesByState();
        Check.end();
    }

    private static void lengths() {
        int[] minutes = {1, 149, 150, 151, 299, 300};
        for (int i = 0; i < minutes.length; i++) {
            Juryreel f = Stage.addScreens(Stage.withChosen(minutes[i]), 1);
            f.show(0, 0, 5);
            Check.same(minutes[i] + " minutes", f.of(0, 'l'), i < 3 ? 1 : 2);
            Check.same(minutes[i] + " minutes, its first hour", f.at(0, 5), 0);
            Object due = i < 3 ? "NoSuchElementException" : (Object) 0;
            Check.same(minutes[i] + " minutes, an hour later", Check.answer(() -> f.at(0, 6)), due);
            Check.missing(minutes[i] + " minutes, an hour before", f, () -> f.at(0, 4));
            Check.missing(minutes[i] + " minutes, two hours later", f, () -> f.at(0, 7));
        }
    }

    private static Object set(Juryreel f, int film, int screen, int hour) {
        return Check.answer(() -> f.show(film, screen, hour));
    }

    private static Object due(boolean isSet, int number) {
        return isSet ? (Object) number : "UnsupportedOperationException";
    }

    private static void notBeforeThePresentHour() {
        for (int now : new int[] {0, 1, 24, 25, 48, 49, 50}) {
            for (int hour = 0; hour < 50; hour++) {
                Juryreel f = Stage.addScreens(Stage.withChosen(10), 1);
                if (now > 0) {
                    f.go(now);
                }
                Check.same("show at " + hour + " by " + now, set(f, 0, 0, hour), due(hour >= now, 0));
            }
        }
    }

    private static void onOneDay() {
        for (int hour = 0; hour < 50; hour++) {
            Juryreel one = Stage.addScreens(Stage.withChosen(150), 1);
            Check.same("one hour at " + hour, set(one, 0, 0, hour), 0);
            Juryreel two = Stage.addScreens(Stage.withChosen(151), 1);
            Check.same("two hours at " + hour, set(two, 0, 0, hour), due(hour % 5 != 4, 0));
        }
    }

    private static boolean meet(int first, int length, int other, int otherLength) {
        return first < other + otherLength && other < first + length;
    }

    private static int hoursOf(int minutes) {
        return minutes <= 150 ? 1 : 2;
    }

    /** A show stands at each hour of the middle of a day; another one is set at each hour of the days around. */
    private static void overlaps(String what, int[] minutes, boolean isOneSection, int film, int screen, boolean mayMeet) {
        for (int stands = 5; stands < 9; stands++) {
            for (int hour = 3; hour < 12; hour++) {
                Juryreel f = isOneSection ? Stage.withChosen(minutes) : Stage.withSections(minutes);
                Stage.addScreens(f, 2).show(0, 0, stands);
                int length = hoursOf(minutes[film]);
                boolean fits = hour % 5 + length <= 5 && (mayMeet || !meet(stands, hoursOf(minutes[0]), hour, length));
                String told = what + ", " + minutes[0] + " at " + stands + ", " + minutes[film] + " at " + hour;
                Check.same(told, set(f, film, screen, hour), due(fits, 1));
            }
        }
    }

    private static final int[][] KINDS = {{150, 150}, {150, 151}, {151, 150}, {151, 151}};

    private static void screenIsFree() {
        for (int[] kind : KINDS) {
            overlaps("screen", kind, false, 1, 0, false);
            overlaps("other screen, other section", kind, false, 1, 1, true);
        }
    }

    private static void ownShowsElsewhere() {
        overlaps("own show", new int[] {150}, true, 0, 1, false);
        overlaps("own show", new int[] {151}, true, 0, 1, false);
    }

    private static void showsOfTheSection() {
        for (int[] kind : KINDS) {
            overlaps("section", kind, true, 1, 1, false);
        }
    }

    private static void shownInEachHour() {
        for (int comes = 4; comes < 10; comes++) {
            for (int ends = comes; ends < 10; ends++) {
                for (int hour = 5; hour < 9; hour++) {
                    Juryreel f = Stage.addScreens(Stage.withChosen(151), 1);
                    f.print(0, 'd', comes);
                    f.key(0, 0, 0, ends);
                    boolean fits = hour >= comes && hour + 1 <= ends;
                    Check.same("drive of " + comes + ", key to " + ends + ", at " + hour, set(f, 0, 0, hour), due(fits, 0));
                }
            }
        }
        Juryreel gap = Stage.addScreens(Stage.withChosen(151), 1);
        gap.print(0, 'd', 0);
        gap.key(0, 0, 5, 5);
        gap.key(0, 0, 7, 7);
        for (int hour = 4; hour < 9; hour++) {
            Check.same("keys with a gap at " + hour, set(gap, 0, 0, hour), due(false, 0));
        }
        gap.key(0, 0, 6, 6);
        Check.same("a key of each hour", set(gap, 0, 0, 5), 0);
    }

    private static void planOfThoseWithNoneToCome() {
        for (int now = 0; now <= 10; now++) {
            Juryreel f = Stage.addScreens(Stage.withChosen(200), 1);
            f.show(0, 0, 5);
            if (now > 0) {
                f.go(now);
            }
            Check.same("plan by " + now, f.plan(0), now < 5 ? 0 : 1);
            if (now >= 5) {
                int first = now == 5 || now == 6 ? 7 : now == 9 ? 10 : now;
                Check.same("the hour by " + now, f.of(1, 'h'), first);
            }
        }
        Juryreel gone = Stage.addScreens(Stage.withChosen(200), 1);
        gone.print(0, 'd', 0);
        gone.key(0, 0, 5, 6);
        gone.show(0, 0, 5);
        gone.storm(1);
        Check.same("gone, and no place", gone.plan(0), 0);
        gone.key(0, 0, 10, 11);
        Check.same("gone is not to come", gone.plan(0), 1);
    }

    private static void planLongerFirst() {
        int[] minutes = {150, 151, 149, 151, 300, 150};
        int[] films = {4, 1, 3, 0, 5, 2};
        int[] hours = {0, 2, 5, 4, 7, 8};
        Juryreel f = Stage.addScreens(Stage.withChosen(minutes), 1);
        Check.same("six", f.plan(0), 6);
        for (int i = 0; i < 6; i++) {
            Check.same("film " + i, f.of(i, 'f'), films[i]);
            Check.same("hour " + i, f.of(i, 'h'), hours[i]);
        }
    }

    private static void planFirstHourThenLowestScreen() {
        for (int free = 0; free < 4; free++) {
            Juryreel f = Stage.addScreens(Stage.withSections(10, 10, 10, 10, 10), 4);
            for (int i = 0; i < free; i++) {
                f.show(i + 1, i, 0);
            }
            Check.same("plan", f.plan(0), 1);
            Check.same("the lowest screen behind " + free, f.of(free, 's'), free);
            Check.same("the first hour", f.of(free, 'h'), 0);
        }
        Juryreel all = Stage.addScreens(Stage.withSections(10, 10, 10, 10, 10), 4);
        for (int i = 0; i < 4; i++) {
            all.show(i + 1, i, 0);
        }
        all.plan(0);
        Check.same("no screen is free in the first hour", all.of(4, 'h'), 1);
        Check.same("the lowest screen then", all.of(4, 's'), 0);
        Juryreel late = Stage.addScreens(Stage.withChosen(10), 2);
        late.print(0, 'd', 0);
        late.key(0, 0, 9, 9);
        late.key(0, 1, 8, 8);
        late.plan(0);
        Check.same("an earlier hour on a higher screen", late.of(0, 's'), 1);
        late.go(8);
        late.plan(0);
        Check.same("at the last hour that is left", late.of(1, 'h'), 9);
        Juryreel end = Stage.addScreens(Stage.withChosen(151), 1);
        end.go(48);
        Check.same("two hours at 48", end.plan(0), 1);
        Juryreel none = Stage.addScreens(Stage.withChosen(151), 1);
        none.go(49);
        Check.same("two hours at 49", none.plan(0), 0);
        Juryreel last = Stage.addScreens(Stage.withChosen(150), 1);
        last.go(49);
        Check.same("one hour at 49", last.plan(0), 1);
        Check.same("the last hour", last.of(0, 'h'), 49);
    }

    private static void statesByTheHour() {
        for (int minutes : new int[] {150, 151}) {
            for (int first : new int[] {0, 5, 8, 48}) {
                Juryreel f = Stage.addScreens(Stage.withChosen(minutes), 1);
                f.show(0, 0, first);
                for (int now = 0; now <= 50; now++) {
                    char due = now < first ? 't' : now <= first + hoursOf(minutes) - 1 ? 'n' : 'o';
                    Check.same(minutes + " at " + first + " by " + now, f.state(0), due);
                    if (now < 50) {
                        f.go(1);
                    }
                }
            }
        }
    }

    private static void stormTakesThoseToComeOnTheDay() {
        for (int now : new int[] {0, 4, 5, 6, 8, 9, 10}) {
            Juryreel f = Stage.addScreens(Stage.withSections(150, 151), 2);
            int[] hours = {4, 5, 9, 10};
            for (int hour : hours) {
                f.show(0, 0, hour);
            }
            f.show(1, 1, 3);
            f.show(1, 1, 8);
            f.show(1, 1, 10);
            if (now > 0) {
                f.go(now);
            }
            StringBuilder before = new StringBuilder();
            for (int i = 0; i < 7; i++) {
                before.append(f.state(i));
            }
            int due = (now < 5 ? 1 : 0) + (now < 9 ? 1 : 0) + (now < 8 ? 1 : 0);
            Check.same("storm by " + now, f.storm(1), due);
            for (int i = 0; i < 7; i++) {
                boolean isOnDay = f.of(i, 'h') / 5 == 1;
                char state = isOnDay && before.charAt(i) == 't' ? 's' : before.charAt(i);
                Check.same("show " + i + " by " + now, f.state(i), state);
            }
        }
    }

    private static void lateTakesThoseBefore() {
        for (int minutes : new int[] {150, 151}) {
            for (int comes = 1; comes < 50; comes++) {
                Juryreel f = Stage.addScreens(Stage.withChosen(minutes), 1);
                int[] hours = {0, 2, 7, 20, 48};
                int due = 0;
                for (int hour : hours) {
                    f.show(0, 0, hour);
                    due += hour > 0 && hour < comes ? 1 : 0;
                }
                Check.same(minutes + " late by " + comes, f.late(0, comes), due);
                for (int i = 0; i < 5; i++) {
                    char state = hours[i] == 0 ? 'n' : hours[i] < comes ? 'l' : 't';
                    Check.same(minutes + " late by " + comes + ", at " + hours[i], f.state(i), state);
                }
                Check.same("an hour before", f.canShow(0, 0, comes - 1), false);
                Check.same("by then", f.canShow(0, 0, comes), true);
            }
        }
    }

    /** A show stays, though another kind of print has come, as long as no one is told to be late. */
    private static void lateOfAKind() {
        Juryreel f = Stage.addScreens(Stage.withChosen(151), 1);
        f.show(0, 0, 20);
        f.show(0, 0, 30);
        f.print(0, 'd', 0);
        f.key(0, 0, 20, 20);
        f.key(0, 0, 30, 31);
        Check.same("no second hour by the keys", f.late(0, 1), 1);
        Check.same("gone", f.state(0), 'l');
        Check.same("stays", f.state(1), 't');
        Check.outside("no place anew", f, () -> f.state(2));
        Juryreel other = Stage.addScreens(Stage.withSections(10, 10), 1);
        other.show(0, 0, 5);
        other.show(1, 0, 6);
        Check.same("of this film alone", other.late(0, 49), 1);
        Check.same("the other stays", other.state(1), 't');
    }

    private static void anewFromThePresentHour() {
        for (int now = 0; now < 15; now++) {
            Juryreel f = Stage.addScreens(Stage.withChosen(151), 1);
            f.storm(1);
            f.show(0, 0, 15);
            if (now > 0) {
                f.go(now);
            }
            Check.same("gone", f.storm(3), 1);
            int first = now < 4 ? now : now < 10 ? 10 : now < 14 ? now : 20;
            Check.same("anew by " + now, f.of(1, 'h'), first);
            Check.same("is now by " + now, f.state(1), first == now ? 'n' : 't');
        }
        Juryreel late = Stage.addScreens(Stage.withChosen(10), 1);
        late.show(0, 0, 3);
        late.show(0, 0, 7);
        late.go(1);
        Check.same("both", late.late(0, 8), 2);
        Check.same("by the hour at which it comes", late.of(2, 'h'), 8);
        Check.same("and behind it", late.of(3, 'h'), 9);
    }

    private static void anewByNumbers() {
        Juryreel f = Stage.addScreens(Stage.withSections(10, 10, 10), 1);
        f.show(2, 0, 6);
        f.show(1, 0, 8);
        f.show(0, 0, 7);
        Check.same("three", f.storm(1), 3);
        int[] films = {2, 1, 0};
        for (int i = 0; i < 3; i++) {
            Check.same("anew " + i, f.of(3 + i, 'f'), films[i]);
            Check.same("hour " + i, f.of(3 + i, 'h'), i);
            Check.same("letter " + i, f.line(i, false), (int) 's');
            Check.same("letter of one gone " + i, f.line(3 + i, false), (int) 'x');
            Check.same("film of one gone " + i, f.line(3 + i, true), films[2 - i]);
        }
        Juryreel place = Stage.addScreens(Stage.withSections(10, 10), 1);
        place.print(0, 'd', 0);
        place.key(0, 0, 6, 6);
        place.print(1, 'd', 0);
        place.key(0, 0, 7, 7);
        place.key(1, 0, 7, 7);
        place.key(1, 0, 8, 9);
        place.show(0, 0, 6);
        place.show(1, 0, 7);
        Check.same("the hour at which it was is free for the other, for all go first", place.late(1, 8), 1);
        Check.same("one that stays", place.state(0), 't');
        Check.same("an hour later", place.of(2, 'h'), 8);
    }

    private static void waitingMovesInOrder() {
        Juryreel f = Stage.withChosen(10);
        f.screen(1, true);
        for (int i = 0; i < 4; i++) {
            f.pass(2);
        }
        f.show(0, 0, 6);
        f.join(3, 0);
        f.join(1, 0);
        f.open(0);
        f.join(2, f.show(0, 0, 8));
        Check.same("two gone", f.storm(1), 2);
        Check.refused("who had a seat waits", f, () -> f.join(3, 2));
        Check.refused("who had none waits", f, () -> f.join(1, 2));
        Check.refused("each for the own one", f, () -> f.join(2, 3));
        Check.same("nobody has a seat at it", f.hasSeat(3, 2), false);
    }

    private static void waitsForOneToCome() {
        for (int now = 0; now <= 10; now++) {
            Juryreel f = Stage.addScreens(Stage.withChosen(200), 1);
            f.pass(0);
            f.show(0, 0, 5);
            if (now > 0) {
                f.go(now);
            }
            Object due = now < 5 ? 1 : (Object) "UnsupportedOperationException";
            Check.same("join by " + now, Check.answer(() -> f.join(0, 0)), due);
        }
    }

    private static void opensByItsFirstHour() {
        for (int minutes : new int[] {150, 151}) {
            for (int now = 0; now <= 10; now++) {
                Juryreel f = Stage.addScreens(Stage.withChosen(minutes), 1);
                f.pass(0);
                f.show(0, 0, 5);
                f.join(0, 0);
                if (now > 0) {
                    f.go(now);
                }
                Object due = now <= 5 ? 1 : (Object) "UnsupportedOperationException";
                Check.same(minutes + " opened by " + now, Check.answer(() -> f.open(0)), due);
                Check.same(minutes + " seat by " + now, f.hasSeat(0, 0), now <= 5);
            }
        }
    }

    private static void leftOutInOneOfItsHours() {
        for (int[] kind : KINDS) {
            for (int stands = 5; stands < 9; stands++) {
                for (int hour = 5; hour < 9; hour++) {
                    Juryreel f = Stage.addScreens(Stage.withSections(kind), 2);
                    f.pass(0);
                    f.show(0, 0, stands);
                    f.show(1, 1, hour);
                    f.join(0, 0);
                    f.join(0, 1);
                    f.open(0);
                    boolean isLeftOut = meet(stands, hoursOf(kind[0]), hour, hoursOf(kind[1]));
                    Check.same("seat at " + stands + ", asked at " + hour, f.open(1), isLeftOut ? 0 : 1);
                    Check.same("seat at " + hour + ", asked", f.hasSeat(0, 1), !isLeftOut);
                    Check.same("sound", f.isSound(), true);
                }
            }
        }
    }

    private static void seesWhatIsNow() {
        for (int minutes : new int[] {150, 151}) {
            for (int now = 0; now <= 10; now++) {
                Juryreel f = Stage.addScreens(Stage.withChosen(minutes), 1);
                f.juror(0, 9);
                f.show(0, 0, 5);
                if (now > 0) {
                    f.go(now);
                }
                boolean isNow = now >= 5 && now < 5 + hoursOf(minutes);
                Check.same(minutes + " seen by " + now, Check.answer(() -> f.see(0, 0, 0)), due(isNow, 1));
                if (isNow) {
                    Check.same("the same again", f.see(0, 0, 0), 1);
                }
            }
        }
    }

    private static void seesOneShowAnHour() {
        Juryreel f = Stage.addScreens(Stage.withChosen(10, 10, 10), 1);
        f.juror(0, 9);
        for (int i = 0; i < 3; i++) {
            f.show(i, 0, 4 + i);
        }
        f.go(4);
        for (int i = 0; i < 3; i++) {
            Check.same("hour by hour " + i, f.see(0, 0, i), i + 1);
            Check.same("once more " + i, f.see(0, 0, i), i + 1);
            f.go(1);
        }
        Juryreel g = Stage.addScreens(Stage.withChosen(10, 10), 2);
        g.juror(0, 9);
        g.show(0, 0, 0);
        Check.same("first", g.see(0, 0, 0), 1);
        g.withdraw(0);
        g.show(1, 1, 0);
        g.show(1, 1, 1);
        Check.refused("another in this hour", g, () -> g.see(0, 0, 1));
        g.go(1);
        Check.same("in the next one", g.see(0, 0, 2), 1);
    }

    /** Films of lands 0 to 3 in section 0, and jurors of no film's land who rank them as they are told. */
    private static Juryreel withBallots(int[]... ballots) {
        Juryreel f = Stage.addScreens(Stage.withChosen(10, 10, 10, 10), 1);
        f.plan(0);
        for (int[] ballot : ballots) {
            f.juror(0, 9);
        }
        for (int i = 0; i < 4; i++) {
            for (int j = 0; j < ballots.length; j++) {
                f.see(0, j, i);
            }
            f.go(1);
        }
        for (int j = 0; j < ballots.length; j++) {
            for (int film : ballots[j]) {
                f.type(film);
            }
            f.rank(0, j);
        }
        f.rule(0, 'r');
        return f;
    }

    private static void moreThanHalf() {
        int[] three = {3, 2, 1, 0};
        int[] two = {2, 3, 1, 0};
        int[] one = {1, 2, 3, 0};
        int[] zero = {0, 1, 2, 3};
        Check.same("one of one", withBallots(three).winner(0), 3);
        Check.same("one of two is half: 1 goes, 0 goes, 3 goes", withBallots(three, two).winner(0), 2);
        Check.same("two of three", withBallots(three, three, two).winner(0), 3);
        Check.same("two of four are half: 0 goes, 3 has two and 2 has two: 3 goes",
            withBallots(three, three, two, two).winner(0), 2);
        Check.same("three of five", withBallots(three, three, three, zero, zero).winner(0), 3);
        Check.same("two of five: 3 goes, 2 has three", withBallots(three, two, two, zero, zero).winner(0), 2);
        Check.same("one of each: 3 goes, 2 has two, 1 goes, 0 goes", withBallots(zero, one, two, three).winner(0), 2);
    }

    private static void months() {
        int[] edges = {0, 1, 2, 49, 50, 98, 99};
        for (int from : edges) {
            for (int to : edges) {
                for (int month : edges) {
                    if (from <= to) {
                        Juryreel f = Stage.withFilms(1);
                        f.sell(0, 3, from, to, 8);
                        String what = from + " to " + to + ", " + month;
                        boolean isWithin = month >= from && month <= to;
                        Object owner = isWithin ? 8 : (Object) "NoSuchElementException";
                        Check.same("owner " + what, Check.answer(() -> f.owner(0, 3, month)), owner);
                        Check.same("sell " + what, Check.answer(() -> f.sell(0, 3, month, month, 8)), due(!isWithin, 2));
                    }
                }
            }
        }
        for (int from = 0; from < 10; from++) {
            for (int to = from; to < 10; to++) {
                Juryreel f = Stage.withFilms(1);
                f.sell(0, 0, 3, 6, 1);
                int first = from;
                int last = to;
                boolean isFree = to < 3 || from > 6;
                Check.same(from + " to " + to + " by 3 to 6", Check.answer(() -> f.sell(0, 0, first, last, 1)), due(isFree, 2));
                Check.same("another land", f.sell(0, 1, from, to, 1), isFree ? 3 : 2);
            }
        }
    }

    /** Each call that leaves a line, with the lines that are there after it, the latest one first. */
    private static void lines(String what, Juryreel f, String due) {
        StringBuilder text = new StringBuilder();
        for (int i = 0; i < due.length() / 2; i++) {
            text.append((char) f.line(i, false)).append(f.line(i, true));
        }
        Check.same(what, text.toString(), due);
        Check.missing(what + ", none beyond", f, () -> f.line(due.length() / 2, true));
    }

    private static void linesByLetter() {
        Juryreel f = Stage.addScreens(Stage.withChosenFor(2, 'w'), 1);
        f.print(0, 'r', 0);
        f.print(1, 'r', 0);
        lines("chosen", f, "c1c0");
        f.choose(0);
        lines("nothing chosen", f, "c1c0");
        f.giveUp(1);
        lines("given up", f, "g1c1c0");
        f.show(1, 0, 5);
        f.plan(0);
        lines("set", f, "s0s1g1c1c0");
        f.storm(1);
        lines("gone and set", f, "s1x1s0s1g1c1c0");
        f.late(1, 49);
        lines("late and set", f, "s1x1s1x1s0s1g1c1c0");
        f.open(3);
        lines("opened", f, "o1s1x1s1x1s0s1g1c1c0");
        f.sell(0, 0, 0, 0, 0);
        lines("sold", f, "d0o1s1x1s1x1s0s1g1c1c0");
        f.juror(0, 1);
        f.see(0, 0, 1);
        f.type(0);
        f.rank(0, 0);
        lines("votes are no lines", f, "d0o1s1x1s1x1s0s1g1c1c0");
        f.award(0);
        lines("prize", f, "p0d0o1s1x1s1x1s0s1g1c1c0");
        f.withdraw(0);
        lines("one that is now does not go", f, "p0d0o1s1x1s1x1s0s1g1c1c0");
        f.withdraw(1);
        lines("withdrawn", f, "x1p0d0o1s1x1s1x1s0s1g1c1c0");
    }

    private static void sharesByState() {
        for (int films = 1; films <= 9; films++) {
            for (int shown = 0; shown <= films; shown++) {
                Juryreel f = Stage.addScreens(Stage.withChosen(tens(films)), 1);
                for (int i = 0; i < shown; i++) {
                    f.show(i, 0, i);
                }
                f.go(shown / 2 + 1);
                Check.same(shown + " of " + films, f.shownShare(), (float) shown / (float) films);
            }
        }
        Juryreel f = Stage.addScreens(Stage.withChosen(10, 10, 10), 1);
        f.print(0, 'd', 0);
        f.key(0, 0, 5, 5);
        f.show(0, 0, 5);
        f.show(1, 0, 6);
        Check.same("two to come", f.shownShare(), 2.0f / 3.0f);
        f.storm(1);
        Check.same("one gone by storm", f.shownShare(), 1.0f / 3.0f);
        f.print(1, 'd', 0);
        f.late(1, 1);
        Check.same("is now, which late takes not", f.shownShare(), 1.0f / 3.0f);
        f.withdraw(1);
        Check.same("withdrawn is of no section", f.shownShare(), 0.0f);
    }

    private static int[] tens(int many) {
        int[] minutes = new int[many];
        java.util.Arrays.fill(minutes, 10);
        return minutes;
    }
}
