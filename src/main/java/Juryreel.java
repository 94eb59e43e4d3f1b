import java.util.NoSuchElementException;

/**
 * A festival of films over ten days: readers, sections, a grid of shows, passes, juries, rights and an archive.
 *
 * All rows are made when the object is made and used again by the calls, so that calls make no objects.
 */
public final class Juryreel {
    private static final int MOST_FILMS = 20;
    private static final int MOST_READERS = 8;
    private static final int MOST_SECTIONS = 5;
    private static final int MOST_CHOSEN = 9;
    private static final int MOST_SCREENS = 4;
    private static final int MOST_KEYS = 60;
    private static final int MOST_SHOWS = 60;
    private static final int MOST_PASSES = 16;
    private static final int MOST_RANK = 3;
    private static final int MOST_JURORS = 5;
    private static final int MOST_DEALS = 40;
    private static final int MOST_LINES = 400;
    private static final int MOST_SCORE = 100;
    private static final int MOST_LAND = 9;
    private static final int LAST_MONTH = 99;
    private static final int DAYS = 10;
    private static final int HOURS_OF_DAY = 5;
    private static final int END = 50;
    private static final int LONGEST_IN_ONE_HOUR = 150;
    private static final int QUARREL = 30;
    private static final int EVEN_MIDDLE = 50;
    private static final int NONE = -1;
    private static final char ANY = '-';
    private static final char NO_PRINT = '-';
    private static final char STANDS = '-';

    private final Grid grid = new Grid();
    private final Film[] films = grid.films;
    private final Venue venue = grid.venue;
    private final Archive archive = grid.archive;
    private int filmCount = 0;
    private final Section[] sections = new Section[MOST_SECTIONS];
    private int sectionCount = 0;
    private final Readings readings = new Readings();
    private final Passes passes = new Passes();
    private final Count count = new Count();
    private final Rights rights = new Rights();
    private final int[] typed = new int[MOST_CHOSEN];
    private int typedCount = 0;
    private final int[] order = new int[MOST_FILMS];
    private final int[] weights = new int[MOST_FILMS];

    public Juryreel() {
        for (int i = 0; i < MOST_SECTIONS; i++) {
            sections[i] = new Section();
        }
    }

    public int film(char form, int minutes, int land) throws IllegalArgumentException, IllegalStateException {
        if (!isForm(form) || !isWithin(minutes, 1, 300) || !isWithin(land, 0, MOST_LAND)) {
            throw new IllegalArgumentException("no such form, or a number out of range");
        }
        if (filmCount >= MOST_FILMS) {
            throw new IllegalStateException("there are 20 films");
        }
        films[filmCount].begin(form, minutes, land);
        filmCount++;
        return filmCount - 1;
    }

    public int reader(int land) throws IllegalArgumentException, IllegalStateException {
        if (!isWithin(land, 0, MOST_LAND)) {
            throw new IllegalArgumentException("no such land");
        }
        if (readings.readerCount >= MOST_READERS) {
            throw new IllegalStateException("there are 8 readers");
        }
        return readings.addReader(land);
    }

    public int deal(int film, int many) throws IndexOutOfBoundsException, IllegalArgumentException, UnsupportedOperationException {
        checkFilm(film);
        if (!isWithin(many, 1, MOST_READERS)) {
            throw new IllegalArgumentException("so many readers cannot be asked for");
        }
        int land = films[film].land;
        if (readings.countFree(film, land) < many) {
            throw new UnsupportedOperationException("there are not so many readers for the film");
        }
        for (int i = 0; i < many; i++) {
            readings.dealOnce(film, land);
        }
        return readings.countDealt(film);
    }

    public boolean isDealt(int film, int reader) throws IndexOutOfBoundsException {
        checkFilm(film);
        checkReader(reader);
        return readings.marks[film][reader] != Readings.NOT_DEALT;
    }

    public int read(int film, int reader, int score) throws IndexOutOfBoundsException, IllegalArgumentException, UnsupportedOperationException {
        checkFilm(film);
        checkReader(reader);
        if (!isWithin(score, 0, MOST_SCORE)) {
            throw new IllegalArgumentException("no such score");
        }
        if (readings.marks[film][reader] != Readings.NOT_TOLD) {
            throw new UnsupportedOperationException("not dealt, or told before");
        }
        readings.tell(film, reader, score);
        return readings.countTold(film);
    }

    public int even(int film, int reader) throws IndexOutOfBoundsException, NoSuchElementException {
        checkFilm(film);
        checkReader(reader);
        if (readings.marks[film][reader] < 0) {
            throw new NoSuchElementException("the reader told no score of the film");
        }
        return readings.evenScore(film, reader);
    }

    public int score(int film) throws IndexOutOfBoundsException, NoSuchElementException {
        checkFilm(film);
        if (readings.countTold(film) == 0) {
            throw new NoSuchElementException("the film has no score");
        }
        return readings.meanOfEven(film);
    }

    public boolean isInQuarrel(int film) throws IndexOutOfBoundsException {
        checkFilm(film);
        return readings.spread(film) > QUARREL;
    }

    public char rival(int film, char where) throws IndexOutOfBoundsException, IllegalArgumentException {
        checkFilm(film);
        if (where != 'a' && where != 'l' && where != 't') {
            throw new IllegalArgumentException("no such place");
        }
        films[film].showElsewhere(where);
        return premiereOf(films[film].stillIs);
    }

    public int section(int quota, int budget, int least, char form, char premiere) throws IllegalArgumentException, IllegalStateException {
        if (!isWithin(quota, 1, MOST_CHOSEN) || !isWithin(budget, 1, 2000) || !isWithin(least, 0, MOST_SCORE)) {
            throw new IllegalArgumentException("a number is out of range");
        }
        if ((form != ANY && !isForm(form)) || levelOf(premiere) == NONE) {
            throw new IllegalArgumentException("no such form or premiere");
        }
        if (sectionCount >= MOST_SECTIONS) {
            throw new IllegalStateException("there are 5 sections");
        }
        sections[sectionCount].begin(quota, budget, least, form, levelOf(premiere));
        sectionCount++;
        return sectionCount - 1;
    }

    public int choose(int section) throws IndexOutOfBoundsException {
        checkSection(section);
        int scored = orderByScore();
        int chosen = 0;
        for (int i = 0; i < scored; i++) {
            int film = order[i];
            if (canBeChosen(film, weights[i], section)) {
                films[film].enter(section, sections[section].premiere);
                archive.add('c', film);
                chosen++;
            }
        }
        return chosen;
    }

    public int sectionOf(int film) throws IndexOutOfBoundsException, NoSuchElementException {
        checkFilm(film);
        if (films[film].section == NONE) {
            throw new NoSuchElementException("the film is in no section");
        }
        return films[film].section;
    }

    public int minutes(int section) throws IndexOutOfBoundsException {
        checkSection(section);
        return minutesIn(section);
    }

    public char giveUp(int film) throws IndexOutOfBoundsException, UnsupportedOperationException {
        checkFilm(film);
        int promise = films[film].promise;
        if (promise == 0) {
            throw new UnsupportedOperationException("there is no promise");
        }
        films[film].promise = 0;
        archive.add('g', film);
        return premiereOf(promise);
    }

    public boolean isBroken(int film) throws IndexOutOfBoundsException {
        checkFilm(film);
        return films[film].breaksPromise();
    }

    public int screen(int seats, boolean hasGear) throws IllegalArgumentException, IllegalStateException {
        if (!isWithin(seats, 1, 9)) {
            throw new IllegalArgumentException("so many seats cannot be");
        }
        if (venue.screenCount >= MOST_SCREENS) {
            throw new IllegalStateException("there are 4 screens");
        }
        return venue.addScreen(seats, hasGear);
    }

    public boolean print(int film, char kind, int hour) throws IndexOutOfBoundsException, IllegalArgumentException {
        checkFilm(film);
        if (kind != 'r' && kind != 'd') {
            throw new IllegalArgumentException("no such kind");
        }
        checkHour(hour);
        boolean hadOne = films[film].kind != NO_PRINT;
        films[film].kind = kind;
        films[film].comes = hour;
        return hadOne;
    }

    public int key(int film, int screen, int from, int to) throws IndexOutOfBoundsException, IllegalArgumentException, IllegalStateException {
        checkFilm(film);
        checkScreen(screen);
        checkHour(from);
        checkHour(to);
        if (to < from) {
            throw new IllegalArgumentException("the last hour is before the first one");
        }
        if (venue.keyCount >= MOST_KEYS) {
            throw new IllegalStateException("there are 60 keys");
        }
        return venue.addKey(film, screen, from, to);
    }

    public boolean canShow(int film, int screen, int hour) throws IndexOutOfBoundsException, IllegalArgumentException {
        checkFilm(film);
        checkScreen(screen);
        checkHour(hour);
        return grid.canRun(film, screen, hour, films[film].comes);
    }

    public int show(int film, int screen, int hour) throws IndexOutOfBoundsException, IllegalArgumentException, UnsupportedOperationException, IllegalStateException {
        checkFilm(film);
        checkScreen(screen);
        checkHour(hour);
        if (films[film].section == NONE || !grid.canBeSet(film, screen, hour)) {
            throw new UnsupportedOperationException("the show cannot be set");
        }
        if (grid.showCount >= MOST_SHOWS) {
            throw new IllegalStateException("there are 60 shows");
        }
        return grid.setShow(film, screen, hour);
    }

    public int plan(int section) throws IndexOutOfBoundsException, IllegalStateException {
        checkSection(section);
        int unset = orderUnsetByMinutes(section);
        if (grid.showCount + unset > MOST_SHOWS) {
            throw new IllegalStateException("there would be more than 60 shows");
        }
        int set = 0;
        for (int i = 0; i < unset; i++) {
            if (grid.setAtFirstPlace(order[i]) != NONE) {
                set++;
            }
        }
        return set;
    }

    public int of(int show, char what) throws IndexOutOfBoundsException, IllegalArgumentException {
        checkShow(show);
        Show asked = grid.shows[show];
        if (what == 'f') {
            return asked.film;
        }
        if (what == 's') {
            return asked.screen;
        }
        if (what == 'h') {
            return asked.first;
        }
        if (what == 'l') {
            return asked.length;
        }
        throw new IllegalArgumentException("a show has no such thing");
    }

    public char state(int show) throws IndexOutOfBoundsException {
        checkShow(show);
        return grid.stateOf(grid.shows[show]);
    }

    public int at(int screen, int hour) throws IndexOutOfBoundsException, IllegalArgumentException, NoSuchElementException {
        checkScreen(screen);
        checkHour(hour);
        int show = grid.showOn(screen, hour);
        if (show == NONE) {
            throw new NoSuchElementException("no show is there");
        }
        return show;
    }

    public int go(int hours) throws IllegalArgumentException, IllegalStateException {
        if (!isWithin(hours, 1, END)) {
            throw new IllegalArgumentException("so many hours cannot go by");
        }
        if (grid.hour + hours > END) {
            throw new IllegalStateException("that is behind the end");
        }
        grid.hour += hours;
        return grid.hour;
    }

    public int now() {
        return grid.hour;
    }

    public int storm(int day) throws IllegalArgumentException, UnsupportedOperationException, IllegalStateException {
        if (!isWithin(day, 0, DAYS - 1)) {
            throw new IllegalArgumentException("no such day");
        }
        if (grid.isStormy[day]) {
            throw new UnsupportedOperationException("there was a storm on the day");
        }
        int going = grid.findOnDay(day);
        if (grid.showCount + going > MOST_SHOWS) {
            throw new IllegalStateException("there would be more than 60 shows");
        }
        grid.isStormy[day] = true;
        grid.takeFound('s');
        grid.setFoundAnew();
        return going;
    }

    public int late(int film, int hour) throws IndexOutOfBoundsException, IllegalArgumentException, UnsupportedOperationException, IllegalStateException {
        checkFilm(film);
        boolean hasPrint = films[film].kind != NO_PRINT;
        if (hour >= END || (hasPrint && hour <= films[film].comes)) {
            throw new IllegalArgumentException("the hour is too great, or not behind the one told before");
        }
        if (!hasPrint) {
            throw new UnsupportedOperationException("there is no print");
        }
        int going = grid.findWithoutPrint(film, hour);
        if (grid.showCount + going > MOST_SHOWS) {
            throw new IllegalStateException("there would be more than 60 shows");
        }
        films[film].comes = hour;
        grid.takeFound('l');
        grid.setFoundAnew();
        return going;
    }

    public int withdraw(int film) throws IndexOutOfBoundsException, UnsupportedOperationException {
        checkFilm(film);
        if (films[film].isWithdrawn) {
            throw new UnsupportedOperationException("the film is withdrawn");
        }
        int going = grid.findOfFilm(film);
        grid.takeFound('w');
        films[film].leave();
        return going;
    }

    public int pass(int rank) throws IllegalArgumentException, IllegalStateException {
        if (!isWithin(rank, 0, MOST_RANK)) {
            throw new IllegalArgumentException("no such rank");
        }
        if (passes.passCount >= MOST_PASSES) {
            throw new IllegalStateException("there are 16 passes");
        }
        return passes.addPass(rank);
    }

    public int join(int pass, int show) throws IndexOutOfBoundsException, UnsupportedOperationException {
        checkPass(pass);
        checkShow(show);
        Show awaited = grid.shows[show];
        if (grid.stateOf(awaited) != 't' || awaited.isOpened || awaited.isAwaitedBy(pass)) {
            throw new UnsupportedOperationException("the pass cannot wait for the show");
        }
        awaited.addWaiting(pass);
        return awaited.waiting;
    }

    public int open(int show) throws IndexOutOfBoundsException, UnsupportedOperationException {
        checkShow(show);
        Show opened = grid.shows[show];
        char state = grid.stateOf(opened);
        if ((state != 't' && state != 'n') || opened.isOpened || opened.first < grid.hour) {
            throw new UnsupportedOperationException("the show cannot be opened");
        }
        opened.isOpened = true;
        archive.add('o', opened.film);
        return passes.giveSeats(grid, opened, venue.seats[opened.screen]);
    }

    public boolean hasSeat(int pass, int show) throws IndexOutOfBoundsException {
        checkPass(pass);
        checkShow(show);
        return grid.shows[show].isSeated[pass];
    }

    public int juror(int section, int land) throws IndexOutOfBoundsException, IllegalArgumentException, IllegalStateException {
        checkSection(section);
        if (!isWithin(land, 0, MOST_LAND)) {
            throw new IllegalArgumentException("no such land");
        }
        if (sections[section].jurorCount >= MOST_JURORS) {
            throw new IllegalStateException("the section has 5 jurors");
        }
        return sections[section].addJuror(land);
    }

    public char rule(int section, char rule) throws IndexOutOfBoundsException, IllegalArgumentException {
        checkSection(section);
        if (rule != 'm' && rule != 'b' && rule != 'c' && rule != 'r') {
            throw new IllegalArgumentException("no such rule");
        }
        char before = sections[section].rule;
        sections[section].rule = rule;
        return before;
    }

    public int see(int section, int juror, int show) throws IndexOutOfBoundsException, UnsupportedOperationException {
        checkSection(section);
        checkJuror(section, juror);
        checkShow(show);
        Show seen = grid.shows[show];
        Juror seer = sections[section].jurors[juror];
        if (grid.stateOf(seen) != 'n' || films[seen.film].section != section || seer.sawAnother(show, grid.hour)) {
            throw new UnsupportedOperationException("the juror cannot see the show");
        }
        seer.look(show, seen.film, grid.hour);
        return countSeen(section, seer);
    }

    public int type(int film) throws IndexOutOfBoundsException, IllegalStateException {
        checkFilm(film);
        if (typedCount >= MOST_CHOSEN) {
            throw new IllegalStateException("there are 9 typed films");
        }
        typed[typedCount] = film;
        typedCount++;
        return typedCount;
    }

    public int wipe() {
        int before = typedCount;
        typedCount = 0;
        return before;
    }

    public int rank(int section, int juror) throws IndexOutOfBoundsException, UnsupportedOperationException {
        checkSection(section);
        checkJuror(section, juror);
        Juror voter = sections[section].jurors[juror];
        if (!isBallotOf(section, voter)) {
            throw new UnsupportedOperationException("the typed films are no ballot of the juror");
        }
        voter.vote(typed, typedCount);
        typedCount = 0;
        return sections[section].countBallots();
    }

    public int winner(int section) throws IndexOutOfBoundsException, NoSuchElementException {
        checkSection(section);
        int film = count.findWinner(films, sections[section]);
        if (film == NONE) {
            throw new NoSuchElementException("there is no ballot to count");
        }
        return film;
    }

    public int award(int section) throws IndexOutOfBoundsException, UnsupportedOperationException, NoSuchElementException {
        checkSection(section);
        if (sections[section].isAwarded) {
            throw new UnsupportedOperationException("the prize was given");
        }
        int film = count.findWinner(films, sections[section]);
        if (film == NONE) {
            throw new NoSuchElementException("there is no winner");
        }
        if (films[film].breaksPromise()) {
            throw new UnsupportedOperationException("the promise of the winner is broken");
        }
        sections[section].isAwarded = true;
        archive.add('p', film);
        return film;
    }

    public int sell(int film, int land, int from, int to, int buyer) throws IndexOutOfBoundsException, IllegalArgumentException, UnsupportedOperationException, IllegalStateException {
        checkFilm(film);
        if (!isWithin(land, 0, MOST_LAND) || !isWithin(buyer, 0, 9)) {
            throw new IllegalArgumentException("no such land or buyer");
        }
        if (!isWithin(from, 0, LAST_MONTH) || !isWithin(to, from, LAST_MONTH)) {
            throw new IllegalArgumentException("no such months");
        }
        if (films[film].isWithdrawn || rights.isSoldWithin(film, land, from, to)) {
            throw new UnsupportedOperationException("the rights cannot be sold");
        }
        if (rights.dealCount >= MOST_DEALS) {
            throw new IllegalStateException("there are 40 deals");
        }
        archive.add('d', film);
        return rights.addDeal(film, land, from, to, buyer);
    }

    public int owner(int film, int land, int month) throws IndexOutOfBoundsException, IllegalArgumentException, NoSuchElementException {
        checkFilm(film);
        if (!isWithin(land, 0, MOST_LAND) || !isWithin(month, 0, LAST_MONTH)) {
            throw new IllegalArgumentException("no such land or month");
        }
        int buyer = rights.buyerIn(film, land, month);
        if (buyer == NONE) {
            throw new NoSuchElementException("nobody has the rights");
        }
        return buyer;
    }

    public int line(int index, boolean isFilm) throws NoSuchElementException {
        if (!isWithin(index, 0, archive.lineCount - 1)) {
            throw new NoSuchElementException("no such line");
        }
        int place = archive.placeOf(index);
        return isFilm ? archive.filmOf[place] : archive.letters[place];
    }

    public long checksum() {
        long sum = 7;
        for (int i = 0; i < grid.showCount; i++) {
            Show show = grid.shows[i];
            sum = 31 * sum + show.film;
            sum = 31 * sum + show.screen + 10 * show.first;
            sum = 31 * sum + grid.stateOf(show);
        }
        return sum;
    }

    public float shownShare() throws ArithmeticException {
        int inSections = 0;
        int shown = 0;
        for (int film = 0; film < filmCount; film++) {
            if (films[film].section != NONE) {
                inSections++;
                if (grid.hasStanding(film)) {
                    shown++;
                }
            }
        }
        if (inSections == 0) {
            throw new ArithmeticException("no film is in a section");
        }
        return (float) shown / (float) inSections;
    }

    public double meanScore() throws ArithmeticException {
        int scored = 0;
        int sum = 0;
        for (int film = 0; film < filmCount; film++) {
            if (readings.countTold(film) > 0) {
                scored++;
                sum += readings.meanOfEven(film);
            }
        }
        if (scored == 0) {
            throw new ArithmeticException("no film has a score");
        }
        return (double) sum / (double) scored;
    }

    public boolean isSound() {
        return grid.keepsApart() && grid.keepsSeats(passes.passCount) && areSectionsKept()
            && areWinnersRight() && rights.keepApart();
    }

    private static boolean isWithin(int number, int least, int most) {
        return number >= least && number <= most;
    }

    private static boolean isForm(char form) {
        return form == 'f' || form == 's' || form == 'd';
    }

    /** The greater the premiere, the greater its level; '-' has 0. */
    private static int levelOf(char premiere) {
        if (premiere == 'w') {
            return 3;
        }
        if (premiere == 'l') {
            return 2;
        }
        if (premiere == 't') {
            return 1;
        }
        return premiere == '-' ? 0 : NONE;
    }

    private static char premiereOf(int level) {
        if (level == 3) {
            return 'w';
        }
        if (level == 2) {
            return 'l';
        }
        return level == 1 ? 't' : '-';
    }

    private static void checkNumber(int number, int many) {
        if (!isWithin(number, 0, many - 1)) {
            throw new IndexOutOfBoundsException("there is none of that number");
        }
    }

    private void checkFilm(int film) {
        checkNumber(film, filmCount);
    }

    private void checkReader(int reader) {
        checkNumber(reader, readings.readerCount);
    }

    private void checkSection(int section) {
        checkNumber(section, sectionCount);
    }

    /** The section must have been checked. */
    private void checkJuror(int section, int juror) {
        checkNumber(juror, sections[section].jurorCount);
    }

    private void checkScreen(int screen) {
        checkNumber(screen, venue.screenCount);
    }

    private void checkShow(int show) {
        checkNumber(show, grid.showCount);
    }

    private void checkPass(int pass) {
        checkNumber(pass, passes.passCount);
    }

    private void checkHour(int hour) {
        if (!isWithin(hour, 0, END - 1)) {
            throw new IllegalArgumentException("no such hour");
        }
    }

    /** Puts a film into the order, greater weights first; of like ones that which was put first stays first. */
    private void putInOrder(int size, int film, int weight) {
        int place = size;
        while (place > 0 && weights[place - 1] < weight) {
            order[place] = order[place - 1];
            weights[place] = weights[place - 1];
            place--;
        }
        order[place] = film;
        weights[place] = weight;
    }

    private int orderByScore() {
        int size = 0;
        for (int film = 0; film < filmCount; film++) {
            if (readings.countTold(film) > 0) {
                putInOrder(size, film, readings.meanOfEven(film));
                size++;
            }
        }
        return size;
    }

    private int orderUnsetByMinutes(int section) {
        int size = 0;
        for (int film = 0; film < filmCount; film++) {
            if (films[film].section == section && !grid.hasToCome(film)) {
                putInOrder(size, film, films[film].minutes);
                size++;
            }
        }
        return size;
    }

    private boolean canBeChosen(int film, int score, int section) {
        Film asked = films[film];
        Section into = sections[section];
        return asked.section == NONE && !asked.isWithdrawn && readings.spread(film) <= QUARREL
            && (into.form == ANY || into.form == asked.form)
            && score >= into.least && asked.stillIs >= into.premiere
            && filmsIn(section) < into.quota && minutesIn(section) + asked.minutes <= into.budget;
    }

    private int filmsIn(int section) {
        int many = 0;
        for (int film = 0; film < filmCount; film++) {
            if (films[film].section == section) {
                many++;
            }
        }
        return many;
    }

    private int minutesIn(int section) {
        int sum = 0;
        for (int film = 0; film < filmCount; film++) {
            if (films[film].section == section) {
                sum += films[film].minutes;
            }
        }
        return sum;
    }

    private int countSeen(int section, Juror seer) {
        int many = 0;
        for (int film = 0; film < filmCount; film++) {
            if (films[film].section == section && seer.hasSeen[film]) {
                many++;
            }
        }
        return many;
    }

    private boolean isTyped(int film) {
        for (int i = 0; i < typedCount; i++) {
            if (typed[i] == film) {
                return true;
            }
        }
        return false;
    }

    /** As many typed as there are due, and each due one typed, leaves no room for one twice or a strange one. */
    private boolean isBallotOf(int section, Juror voter) {
        int due = 0;
        for (int film = 0; film < filmCount; film++) {
            if (films[film].section == section && films[film].land != voter.land) {
                due++;
                if (!voter.hasSeen[film] || !isTyped(film)) {
                    return false;
                }
            }
        }
        return due > 0 && due == typedCount;
    }

    private boolean areSectionsKept() {
        for (int i = 0; i < sectionCount; i++) {
            if (filmsIn(i) > sections[i].quota || minutesIn(i) > sections[i].budget) {
                return false;
            }
        }
        return true;
    }

    private boolean areWinnersRight() {
        for (int i = 0; i < sectionCount; i++) {
            if (count.findWinner(films, sections[i]) != count.recount(films, sections[i])) {
                return false;
            }
        }
        return true;
    }

    /** A film with what was told of it; its promise is the level of a premiere, 0 for none. */
    private static final class Film {
        char form = ANY;
        int minutes = 0;
        int land = 0;
        int section = NONE;
        boolean isWithdrawn = false;
        int stillIs = 3;
        int promise = 0;
        char kind = NO_PRINT;
        int comes = 0;

        void begin(char newForm, int newMinutes, int newLand) {
            form = newForm;
            minutes = newMinutes;
            land = newLand;
        }

        void showElsewhere(char where) {
            int left = 0;
            if (where == 'a') {
                left = 2;
            } else if (where == 'l') {
                left = 1;
            }
            stillIs = Math.min(stillIs, left);
        }

        void enter(int newSection, int newPromise) {
            section = newSection;
            promise = newPromise;
        }

        void leave() {
            isWithdrawn = true;
            section = NONE;
            promise = 0;
        }

        boolean breaksPromise() {
            return stillIs < promise;
        }

        int hoursLong() {
            return minutes <= LONGEST_IN_ONE_HOUR ? 1 : 2;
        }
    }

    /** Who was dealt which film, and the scores told. */
    private static final class Readings {
        static final int NOT_DEALT = -2;
        static final int NOT_TOLD = -1;

        final int[] lands = new int[MOST_READERS];
        final int[] dealtFilms = new int[MOST_READERS];
        final int[] toldScores = new int[MOST_READERS];
        final int[] sums = new int[MOST_READERS];
        final int[][] marks = new int[MOST_FILMS][MOST_READERS];
        int readerCount = 0;

        Readings() {
            for (int film = 0; film < MOST_FILMS; film++) {
                for (int reader = 0; reader < MOST_READERS; reader++) {
                    marks[film][reader] = NOT_DEALT;
                }
            }
        }

        int addReader(int land) {
            lands[readerCount] = land;
            readerCount++;
            return readerCount - 1;
        }

        boolean isFree(int film, int land, int reader) {
            return lands[reader] != land && marks[film][reader] == NOT_DEALT;
        }

        int countFree(int film, int land) {
            int many = 0;
            for (int reader = 0; reader < readerCount; reader++) {
                if (isFree(film, land, reader)) {
                    many++;
                }
            }
            return many;
        }

        void dealOnce(int film, int land) {
            int best = NONE;
            for (int reader = 0; reader < readerCount; reader++) {
                if (isFree(film, land, reader) && (best == NONE || dealtFilms[reader] < dealtFilms[best])) {
                    best = reader;
                }
            }
            if (best != NONE) {
                marks[film][best] = NOT_TOLD;
                dealtFilms[best]++;
            }
        }

        int countDealt(int film) {
            int many = 0;
            for (int reader = 0; reader < readerCount; reader++) {
                if (marks[film][reader] != NOT_DEALT) {
                    many++;
                }
            }
            return many;
        }

        void tell(int film, int reader, int score) {
            marks[film][reader] = score;
            toldScores[reader]++;
            sums[reader] += score;
        }

        int countTold(int film) {
            int many = 0;
            for (int reader = 0; reader < readerCount; reader++) {
                if (marks[film][reader] >= 0) {
                    many++;
                }
            }
            return many;
        }

        int evenScore(int film, int reader) {
            int mean = toldScores[reader] == 0 ? 0 : sums[reader] / toldScores[reader];
            return marks[film][reader] - mean + EVEN_MIDDLE;
        }

        int meanOfEven(int film) {
            int sum = 0;
            int many = 0;
            for (int reader = 0; reader < readerCount; reader++) {
                if (marks[film][reader] >= 0) {
                    sum += evenScore(film, reader);
                    many++;
                }
            }
            return many == 0 ? 0 : sum / many;
        }

        /** How much the greatest even score is above the least one; 0 without scores. */
        int spread(int film) {
            int least = 0;
            int greatest = 0;
            boolean hasOne = false;
            for (int reader = 0; reader < readerCount; reader++) {
                if (marks[film][reader] >= 0) {
                    int even = evenScore(film, reader);
                    least = hasOne ? Math.min(least, even) : even;
                    greatest = hasOne ? Math.max(greatest, even) : even;
                    hasOne = true;
                }
            }
            return greatest - least;
        }
    }

    /** A section and its jury; its premiere is a level. */
    private static final class Section {
        int quota = 0;
        int budget = 0;
        int least = 0;
        char form = ANY;
        int premiere = 0;
        char rule = 'm';
        boolean isAwarded = false;
        final Juror[] jurors = new Juror[MOST_JURORS];
        int jurorCount = 0;

        Section() {
            for (int i = 0; i < MOST_JURORS; i++) {
                jurors[i] = new Juror();
            }
        }

        void begin(int newQuota, int newBudget, int newLeast, char newForm, int newPremiere) {
            quota = newQuota;
            budget = newBudget;
            least = newLeast;
            form = newForm;
            premiere = newPremiere;
        }

        int addJuror(int land) {
            jurors[jurorCount].land = land;
            jurorCount++;
            return jurorCount - 1;
        }

        int countBallots() {
            int many = 0;
            for (int i = 0; i < jurorCount; i++) {
                if (jurors[i].ballotSize > 0) {
                    many++;
                }
            }
            return many;
        }
    }

    /** A juror with the films seen, the last show seen and the ballot, whose size is 0 as long as there is none. */
    private static final class Juror {
        int land = 0;
        final boolean[] hasSeen = new boolean[MOST_FILMS];
        int lastHour = NONE;
        int lastShow = NONE;
        final int[] ballot = new int[MOST_CHOSEN];
        int ballotSize = 0;

        boolean sawAnother(int show, int hour) {
            return lastHour == hour && lastShow != show;
        }

        void look(int show, int film, int hour) {
            lastHour = hour;
            lastShow = show;
            hasSeen[film] = true;
        }

        void vote(int[] ranked, int many) {
            ballotSize = Math.min(many, Math.min(ranked.length, MOST_CHOSEN));
            for (int i = 0; i < ballotSize; i++) {
                ballot[i] = ranked[i];
            }
        }
    }

    /** A show; its cause is the letter by which it is gone, or STANDS. */
    private static final class Show {
        int film = 0;
        int screen = 0;
        int first = 0;
        int length = 0;
        char cause = STANDS;
        boolean isOpened = false;
        final int[] queue = new int[MOST_PASSES];
        int waiting = 0;
        final boolean[] isSeated = new boolean[MOST_PASSES];

        void begin(int newFilm, int newScreen, int newFirst, int newLength) {
            film = newFilm;
            screen = newScreen;
            first = newFirst;
            length = newLength;
        }

        /** Whether it is not gone and has one of the hours told. */
        boolean standsIn(int from, int hours) {
            return cause == STANDS && first < from + hours && from < first + length;
        }

        boolean isAwaitedBy(int pass) {
            for (int i = 0; i < waiting; i++) {
                if (queue[i] == pass) {
                    return true;
                }
            }
            return false;
        }

        void addWaiting(int pass) {
            if (waiting < MOST_PASSES) {
                queue[waiting] = pass;
                waiting++;
            }
        }

        int countSeats() {
            int many = 0;
            for (int pass = 0; pass < MOST_PASSES; pass++) {
                if (isSeated[pass]) {
                    many++;
                }
            }
            return many;
        }
    }

    /** The screens and the keys that open them. */
    private static final class Venue {
        final int[] seats = new int[MOST_SCREENS];
        final boolean[] hasGear = new boolean[MOST_SCREENS];
        int screenCount = 0;
        final int[] keyFilms = new int[MOST_KEYS];
        final int[] keyScreens = new int[MOST_KEYS];
        final int[] keyFrom = new int[MOST_KEYS];
        final int[] keyTo = new int[MOST_KEYS];
        int keyCount = 0;

        int addScreen(int newSeats, boolean newGear) {
            seats[screenCount] = newSeats;
            hasGear[screenCount] = newGear;
            screenCount++;
            return screenCount - 1;
        }

        int addKey(int film, int screen, int from, int to) {
            keyFilms[keyCount] = film;
            keyScreens[keyCount] = screen;
            keyFrom[keyCount] = from;
            keyTo[keyCount] = to;
            keyCount++;
            return keyCount;
        }

        boolean isOpenedByKey(int film, int screen, int hour) {
            for (int i = 0; i < keyCount; i++) {
                if (keyFilms[i] == film && keyScreens[i] == screen && hour >= keyFrom[i] && hour <= keyTo[i]) {
                    return true;
                }
            }
            return false;
        }
    }

    /** The shows by the hour, and the changes of them. */
    private static final class Grid {
        final Film[] films = new Film[MOST_FILMS];
        final Venue venue = new Venue();
        final Archive archive = new Archive();
        final Show[] shows = new Show[MOST_SHOWS];
        int showCount = 0;
        int hour = 0;
        final boolean[] isStormy = new boolean[DAYS];
        final int[] found = new int[MOST_SHOWS];
        int foundCount = 0;

        Grid() {
            for (int i = 0; i < MOST_FILMS; i++) {
                films[i] = new Film();
            }
            for (int i = 0; i < MOST_SHOWS; i++) {
                shows[i] = new Show();
            }
        }

        char stateOf(Show show) {
            if (show.cause != STANDS) {
                return show.cause;
            }
            if (hour < show.first) {
                return 't';
            }
            return hour < show.first + show.length ? 'n' : 'o';
        }

        /** Whether a film could be shown if its print came at the hour told. */
        boolean canRun(int film, int screen, int atHour, int comes) {
            char kind = films[film].kind;
            if (kind == NO_PRINT || atHour < comes) {
                return false;
            }
            return kind == 'r' ? venue.hasGear[screen] : venue.isOpenedByKey(film, screen, atHour);
        }

        boolean canRunThrough(int film, int screen, int first, int comes) {
            int end = first + films[film].hoursLong();
            for (int i = first; i < end; i++) {
                if (!canRun(film, screen, i, comes)) {
                    return false;
                }
            }
            return true;
        }

        boolean canBeSet(int film, int screen, int first) {
            int length = films[film].hoursLong();
            if (first < hour || first >= END || first % HOURS_OF_DAY + length > HOURS_OF_DAY) {
                return false;
            }
            if (isStormy[first / HOURS_OF_DAY]) {
                return false;
            }
            return canRunThrough(film, screen, first, films[film].comes) && isFree(film, screen, first);
        }

        boolean isFree(int film, int screen, int first) {
            int length = films[film].hoursLong();
            int section = films[film].section;
            for (int i = 0; i < showCount; i++) {
                Show other = shows[i];
                if (other.standsIn(first, length)
                    && (other.screen == screen || other.film == film || films[other.film].section == section)) {
                    return false;
                }
            }
            return true;
        }

        int setShow(int film, int screen, int first) {
            if (showCount >= MOST_SHOWS) {
                return NONE;
            }
            shows[showCount].begin(film, screen, first, films[film].hoursLong());
            showCount++;
            archive.add('s', film);
            return showCount - 1;
        }

        int setAtFirstPlace(int film) {
            for (int first = hour; first < END; first++) {
                for (int screen = 0; screen < venue.screenCount; screen++) {
                    if (canBeSet(film, screen, first)) {
                        return setShow(film, screen, first);
                    }
                }
            }
            return NONE;
        }

        int showOn(int screen, int atHour) {
            for (int i = 0; i < showCount; i++) {
                if (shows[i].screen == screen && shows[i].standsIn(atHour, 1)) {
                    return i;
                }
            }
            return NONE;
        }

        boolean hasToCome(int film) {
            for (int i = 0; i < showCount; i++) {
                if (shows[i].film == film && stateOf(shows[i]) == 't') {
                    return true;
                }
            }
            return false;
        }

        boolean hasStanding(int film) {
            for (int i = 0; i < showCount; i++) {
                if (shows[i].film == film && shows[i].cause == STANDS) {
                    return true;
                }
            }
            return false;
        }

        int findOnDay(int day) {
            foundCount = 0;
            for (int i = 0; i < showCount; i++) {
                if (stateOf(shows[i]) == 't' && shows[i].first / HOURS_OF_DAY == day) {
                    addFound(i);
                }
            }
            return foundCount;
        }

        int findWithoutPrint(int film, int comes) {
            foundCount = 0;
            for (int i = 0; i < showCount; i++) {
                Show show = shows[i];
                if (show.film == film && stateOf(show) == 't' && !canRunThrough(film, show.screen, show.first, comes)) {
                    addFound(i);
                }
            }
            return foundCount;
        }

        int findOfFilm(int film) {
            foundCount = 0;
            for (int i = 0; i < showCount; i++) {
                if (shows[i].film == film && stateOf(shows[i]) == 't') {
                    addFound(i);
                }
            }
            return foundCount;
        }

        void addFound(int show) {
            if (foundCount < MOST_SHOWS) {
                found[foundCount] = show;
                foundCount++;
            }
        }

        void takeFound(char cause) {
            for (int i = 0; i < foundCount; i++) {
                Show gone = shows[found[i]];
                gone.cause = cause;
                archive.add('x', gone.film);
            }
        }

        void setFoundAnew() {
            for (int i = 0; i < foundCount; i++) {
                Show gone = shows[found[i]];
                int anew = setAtFirstPlace(gone.film);
                if (anew != NONE) {
                    for (int j = 0; j < gone.waiting; j++) {
                        shows[anew].addWaiting(gone.queue[j]);
                    }
                }
            }
        }

        boolean isSeatedElsewhere(int pass, Show show) {
            for (int i = 0; i < showCount; i++) {
                Show other = shows[i];
                if (other != show && other.isSeated[pass] && other.standsIn(show.first, show.length)) {
                    return true;
                }
            }
            return false;
        }

        /** Whether no two shows share a screen in an hour, nor are of one section in one. */
        boolean keepsApart() {
            for (int i = 0; i < showCount; i++) {
                for (int j = 0; j < i; j++) {
                    if (shows[i].cause == STANDS && shows[j].standsIn(shows[i].first, shows[i].length)
                        && (shows[i].screen == shows[j].screen || areOfOneSection(shows[i], shows[j]))) {
                        return false;
                    }
                }
            }
            return true;
        }

        boolean areOfOneSection(Show one, Show other) {
            int section = films[one.film].section;
            return section != NONE && films[other.film].section == section;
        }

        boolean keepsSeats(int passCount) {
            for (int i = 0; i < showCount; i++) {
                if (shows[i].countSeats() > venue.seats[shows[i].screen]) {
                    return false;
                }
                for (int pass = 0; pass < passCount; pass++) {
                    if (shows[i].cause == STANDS && shows[i].isSeated[pass] && isSeatedElsewhere(pass, shows[i])) {
                        return false;
                    }
                }
            }
            return true;
        }
    }

    /** The passes, and how seats are given to them. */
    private static final class Passes {
        final int[] ranks = new int[MOST_PASSES];
        int passCount = 0;

        int addPass(int rank) {
            ranks[passCount] = rank;
            passCount++;
            return passCount - 1;
        }

        int giveSeats(Grid grid, Show show, int seats) {
            int given = 0;
            for (int rank = 0; rank <= MOST_RANK; rank++) {
                for (int i = 0; i < show.waiting; i++) {
                    int pass = show.queue[i];
                    if (given < seats && ranks[pass] == rank && !grid.isSeatedElsewhere(pass, show)) {
                        show.isSeated[pass] = true;
                        given++;
                    }
                }
            }
            return given;
        }
    }

    /** Finds winners film by film, and again ballot by ballot, by which each finding can be checked. */
    private static final class Count {
        final boolean[] isOut = new boolean[MOST_FILMS];
        final boolean[] isOnBallot = new boolean[MOST_FILMS];
        final int[] tally = new int[MOST_FILMS];
        final int[][] leads = new int[MOST_FILMS][MOST_FILMS];

        int findWinner(Film[] films, Section section) {
            dropWithdrawn(films);
            if (section.rule == 'b') {
                return withMost(section, true);
            }
            if (section.rule == 'c') {
                return byDuels(section);
            }
            return section.rule == 'r' ? byRounds(section) : withMost(section, false);
        }

        void dropWithdrawn(Film[] films) {
            for (int film = 0; film < MOST_FILMS && film < films.length; film++) {
                isOut[film] = films[film].isWithdrawn;
            }
        }

        int placeOn(Juror juror, int film) {
            for (int i = 0; i < juror.ballotSize; i++) {
                if (juror.ballot[i] == film) {
                    return i;
                }
            }
            return NONE;
        }

        int firstOn(Juror juror) {
            for (int i = 0; i < juror.ballotSize; i++) {
                if (!isOut[juror.ballot[i]]) {
                    return juror.ballot[i];
                }
            }
            return NONE;
        }

        boolean isRanked(Section section, int film) {
            for (int i = 0; i < section.jurorCount; i++) {
                if (!isOut[film] && placeOn(section.jurors[i], film) != NONE) {
                    return true;
                }
            }
            return false;
        }

        int firstsOf(Section section, int film) {
            int many = 0;
            for (int i = 0; i < section.jurorCount; i++) {
                if (firstOn(section.jurors[i]) == film) {
                    many++;
                }
            }
            return many;
        }

        int pointsOf(Section section, int film) {
            int points = 0;
            for (int i = 0; i < section.jurorCount; i++) {
                Juror juror = section.jurors[i];
                int place = placeOn(juror, film);
                for (int j = place + 1; place != NONE && j < juror.ballotSize; j++) {
                    if (!isOut[juror.ballot[j]]) {
                        points++;
                    }
                }
            }
            return points;
        }

        int withMost(Section section, boolean byPoints) {
            int best = NONE;
            int most = NONE;
            for (int film = 0; film < MOST_FILMS; film++) {
                if (isRanked(section, film)) {
                    int many = byPoints ? pointsOf(section, film) : firstsOf(section, film);
                    if (many > most) {
                        best = film;
                        most = many;
                    }
                }
            }
            return best;
        }

        int byDuels(Section section) {
            for (int film = 0; film < MOST_FILMS; film++) {
                if (isRanked(section, film) && winsEachDuel(section, film)) {
                    return film;
                }
            }
            return withMost(section, true);
        }

        boolean winsEachDuel(Section section, int film) {
            for (int other = 0; other < MOST_FILMS; other++) {
                if (other != film && isRanked(section, other) && leadOf(section, film, other) <= 0) {
                    return false;
                }
            }
            return true;
        }

        /** On how many more ballots the one is ahead of the other than behind it. */
        int leadOf(Section section, int one, int other) {
            int lead = 0;
            for (int i = 0; i < section.jurorCount; i++) {
                int place = placeOn(section.jurors[i], one);
                int against = placeOn(section.jurors[i], other);
                if (place != NONE && against != NONE) {
                    lead += place < against ? 1 : -1;
                }
            }
            return lead;
        }

        int byRounds(Section section) {
            for (int round = 0; round < MOST_FILMS; round++) {
                int voting = 0;
                for (int i = 0; i < section.jurorCount; i++) {
                    if (firstOn(section.jurors[i]) != NONE) {
                        voting++;
                    }
                }
                int best = withMost(section, false);
                if (best == NONE || 2 * firstsOf(section, best) > voting) {
                    return best;
                }
                isOut[withFewestFirsts(section)] = true;
            }
            return NONE;
        }

        /** Asked only while a film is left; of like ones the highest number. */
        int withFewestFirsts(Section section) {
            int worst = 0;
            int fewest = MOST_JURORS + 1;
            for (int film = 0; film < MOST_FILMS; film++) {
                if (isRanked(section, film) && firstsOf(section, film) <= fewest) {
                    worst = film;
                    fewest = firstsOf(section, film);
                }
            }
            return worst;
        }

        /** The winner again, by going through the ballots one by one. */
        int recount(Film[] films, Section section) {
            dropWithdrawn(films);
            if (section.rule == 'r') {
                return recountRounds(section);
            }
            tallyBallots(section, section.rule != 'm');
            if (section.rule == 'c') {
                int ahead = recountDuels();
                return ahead == NONE ? tallied() : ahead;
            }
            return tallied();
        }

        /** Goes through all ballots and returns how many of them have a film left. */
        int tallyBallots(Section section, boolean byPoints) {
            int voting = 0;
            for (int film = 0; film < MOST_FILMS; film++) {
                tally[film] = 0;
                isOnBallot[film] = false;
                for (int other = 0; other < MOST_FILMS; other++) {
                    leads[film][other] = 0;
                }
            }
            for (int i = 0; i < section.jurorCount; i++) {
                if (tallyBallot(section.jurors[i], byPoints)) {
                    voting++;
                }
            }
            return voting;
        }

        boolean tallyBallot(Juror juror, boolean byPoints) {
            int behind = 0;
            int first = NONE;
            for (int i = juror.ballotSize - 1; i >= 0; i--) {
                int film = juror.ballot[i];
                if (!isOut[film]) {
                    isOnBallot[film] = true;
                    first = film;
                    tally[film] += byPoints ? behind : 0;
                    behind++;
                    for (int j = 0; j < i; j++) {
                        leads[juror.ballot[j]][film]++;
                        leads[film][juror.ballot[j]]--;
                    }
                }
            }
            if (first != NONE && !byPoints) {
                tally[first]++;
            }
            return first != NONE;
        }

        int tallied() {
            int best = NONE;
            for (int film = MOST_FILMS - 1; film >= 0; film--) {
                if (isOnBallot[film] && (best == NONE || tally[film] >= tally[best])) {
                    best = film;
                }
            }
            return best;
        }

        int recountDuels() {
            for (int film = 0; film < MOST_FILMS; film++) {
                boolean isAhead = isOnBallot[film];
                for (int other = 0; other < MOST_FILMS; other++) {
                    if (other != film && isOnBallot[other] && leads[film][other] <= 0) {
                        isAhead = false;
                    }
                }
                if (isAhead) {
                    return film;
                }
            }
            return NONE;
        }

        int recountRounds(Section section) {
            for (int round = 0; round < MOST_FILMS; round++) {
                int voting = tallyBallots(section, false);
                int best = tallied();
                if (best == NONE || 2 * tally[best] > voting) {
                    return best;
                }
                int worst = best;
                for (int film = 0; film < MOST_FILMS; film++) {
                    if (isOnBallot[film] && (tally[film] < tally[worst] || tally[film] == tally[worst] && film > worst)) {
                        worst = film;
                    }
                }
                isOut[worst] = true;
            }
            return NONE;
        }
    }

    /** The deals of rights. */
    private static final class Rights {
        final int[] soldFilms = new int[MOST_DEALS];
        final int[] lands = new int[MOST_DEALS];
        final int[] firstMonths = new int[MOST_DEALS];
        final int[] lastMonths = new int[MOST_DEALS];
        final int[] buyers = new int[MOST_DEALS];
        int dealCount = 0;

        int addDeal(int film, int land, int from, int to, int buyer) {
            soldFilms[dealCount] = film;
            lands[dealCount] = land;
            firstMonths[dealCount] = from;
            lastMonths[dealCount] = to;
            buyers[dealCount] = buyer;
            dealCount++;
            return dealCount;
        }

        boolean isOver(int deal, int film, int land, int from, int to) {
            return soldFilms[deal] == film && lands[deal] == land
                && firstMonths[deal] <= to && from <= lastMonths[deal];
        }

        boolean isSoldWithin(int film, int land, int from, int to) {
            for (int i = 0; i < dealCount; i++) {
                if (isOver(i, film, land, from, to)) {
                    return true;
                }
            }
            return false;
        }

        int buyerIn(int film, int land, int month) {
            for (int i = 0; i < dealCount; i++) {
                if (isOver(i, film, land, month, month)) {
                    return buyers[i];
                }
            }
            return NONE;
        }

        boolean keepApart() {
            for (int i = 0; i < dealCount; i++) {
                for (int j = 0; j < i; j++) {
                    if (isOver(j, soldFilms[i], lands[i], firstMonths[i], lastMonths[i])) {
                        return false;
                    }
                }
            }
            return true;
        }
    }

    /** The lines that are kept, in a ring, so that the oldest one gives its place to a new one. */
    private static final class Archive {
        final char[] letters = new char[MOST_LINES];
        final int[] filmOf = new int[MOST_LINES];
        int lineCount = 0;
        int next = 0;

        void add(char letter, int film) {
            letters[next] = letter;
            filmOf[next] = film;
            next = (next + 1) % MOST_LINES;
            lineCount = Math.min(lineCount + 1, MOST_LINES);
        }

        /** The place of the line with an index that was looked at, 0 being the latest one. */
        int placeOf(int index) {
            return (next - 1 - index + 2 * MOST_LINES) % MOST_LINES;
        }
    }
}
