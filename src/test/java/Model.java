import java.util.ArrayList;
import java.util.Comparator;
import java.util.HashMap;
import java.util.HashSet;
import java.util.LinkedHashMap;
import java.util.List;
import java.util.Map;
import java.util.NoSuchElementException;
import java.util.Set;
import java.util.TreeMap;
import java.util.TreeSet;

/** The document told a second time, with lists and maps and without care for cost; RandomRunsTest compares both. */
public final class Model {
    private static final String PREMIERES = "-tlw";

    private static final class F {
        char form;
        int minutes;
        int land;
        Integer section;
        boolean gone;
        char still = 'w';
        char promise = '-';
        Character kind;
        int comes;
        final Map<Integer, Integer> told = new TreeMap<>();
        final Set<Integer> dealt = new TreeSet<>();
    }

    private static final class S {
        int quota;
        int budget;
        int least;
        char form;
        char premiere;
        char rule = 'm';
        boolean given;
        final List<J> jury = new ArrayList<>();
    }

    private static final class J {
        int land;
        final Set<Integer> saw = new HashSet<>();
        final Map<Integer, Integer> byHour = new HashMap<>();
        List<Integer> ballot;
    }

    private static final class Sh {
        int number;
        int film;
        int screen;
        List<Integer> hours;
        Character cause;
        boolean opened;
        List<Integer> queue = new ArrayList<>();
        final Set<Integer> seated = new HashSet<>();
    }

    private final List<F> films = new ArrayList<>();
    private final List<Integer> readers = new ArrayList<>();
    private final List<S> sections = new ArrayList<>();
    private final List<int[]> screens = new ArrayList<>();
    private final List<int[]> keys = new ArrayList<>();
    private final List<Sh> shows = new ArrayList<>();
    private final List<Integer> passes = new ArrayList<>();
    private final List<int[]> deals = new ArrayList<>();
    private final List<int[]> lines = new ArrayList<>();
    private final Set<Integer> storms = new HashSet<>();
    private List<Integer> typed = new ArrayList<>();
    private int hour = 0;

    private static <T> T pick(List<T> list, int index) {
        if (index < 0 || index >= list.size()) {
            throw new IndexOutOfBoundsException();
        }
        return list.get(index);
    }

    private static void legal(boolean holds) {
        if (!holds) {
            throw new IllegalArgumentException();
        }
    }

    private static void can(boolean holds) {
        if (!holds) {
            throw new UnsupportedOperationException();
        }
    }

    private static void room(boolean holds) {
        if (!holds) {
            throw new IllegalStateException();
        }
    }

    private static void there(boolean holds) {
        if (!holds) {
            throw new NoSuchElementException();
        }
    }

    private static boolean in(int x, int a, int b) {
        return a <= x && x <= b;
    }

    private void note(char letter, int film) {
        lines.add(0, new int[] {letter, film});
        if (lines.size() > 400) {
            lines.remove(400);
        }
    }

    public int film(char form, int minutes, int land) {
        legal("fsd".indexOf(form) >= 0 && in(minutes, 1, 300) && in(land, 0, 9));
        room(films.size() < 20);
        F f = new F();
        f.form = form;
        f.minutes = minutes;
        f.land = land;
        films.add(f);
        return films.size() - 1;
    }

    public int reader(int land) {
        legal(in(land, 0, 9));
        room(readers.size() < 8);
        readers.add(land);
        return readers.size() - 1;
    }

    public int deal(int film, int many) {
        F f = pick(films, film);
        legal(in(many, 1, 8));
        List<Integer> free = new ArrayList<>();
        for (int r = 0; r < readers.size(); r++) {
            if (readers.get(r) != f.land && !f.dealt.contains(r)) {
                free.add(r);
            }
        }
        can(free.size() >= many);
        free.sort(Comparator.comparingLong(r -> films.stream().filter(x -> x.dealt.contains(r)).count()));
        f.dealt.addAll(free.subList(0, many));
        return f.dealt.size();
    }

    public boolean isDealt(int film, int reader) {
        pick(films, film);
        pick(readers, reader);
        return films.get(film).dealt.contains(reader);
    }

    public int read(int film, int reader, int score) {
        F f = pick(films, film);
        pick(readers, reader);
        legal(in(score, 0, 100));
        can(f.dealt.contains(reader) && !f.told.containsKey(reader));
        f.told.put(reader, score);
        return f.told.size();
    }

    public int even(int film, int reader) {
        F f = pick(films, film);
        pick(readers, reader);
        there(f.told.containsKey(reader));
        double mean = films.stream().filter(x -> x.told.containsKey(reader)).mapToInt(x -> x.told.get(reader)).average().getAsDouble();
        return f.told.get(reader) - (int) Math.floor(mean + 1e-9) + 50;
    }

    private List<Integer> evens(int film) {
        List<Integer> all = new ArrayList<>();
        for (int r : films.get(film).told.keySet()) {
            all.add(even(film, r));
        }
        return all;
    }

    public int score(int film) {
        pick(films, film);
        List<Integer> all = evens(film);
        there(!all.isEmpty());
        int sum = all.stream().mapToInt(x -> x).sum();
        return sum < 0 ? -(-sum / all.size()) : sum / all.size();
    }

    public boolean isInQuarrel(int film) {
        pick(films, film);
        for (int a : evens(film)) {
            for (int b : evens(film)) {
                if (a - b > 30) {
                    return true;
                }
            }
        }
        return false;
    }

    public char rival(int film, char where) {
        F f = pick(films, film);
        legal("alt".indexOf(where) >= 0);
        char left = where == 'a' ? 'l' : where == 'l' ? 't' : '-';
        if (PREMIERES.indexOf(left) < PREMIERES.indexOf(f.still)) {
            f.still = left;
        }
        return f.still;
    }

    public int section(int quota, int budget, int least, char form, char premiere) {
        legal(in(quota, 1, 9) && in(budget, 1, 2000) && in(least, 0, 100));
        legal("fsd-".indexOf(form) >= 0 && PREMIERES.indexOf(premiere) >= 0);
        room(sections.size() < 5);
        S s = new S();
        s.quota = quota;
        s.budget = budget;
        s.least = least;
        s.form = form;
        s.premiere = premiere;
        sections.add(s);
        return sections.size() - 1;
    }

    private List<Integer> of(int section) {
        List<Integer> all = new ArrayList<>();
        for (int i = 0; i < films.size(); i++) {
            if (films.get(i).section != null && films.get(i).section == section) {
                all.add(i);
            }
        }
        return all;
    }

    public int choose(int section) {
        S s = pick(sections, section);
        List<Integer> order = new ArrayList<>();
        for (int i = 0; i < films.size(); i++) {
            if (!films.get(i).told.isEmpty()) {
                order.add(i);
            }
        }
        order.sort(Comparator.comparingInt(i -> -score(i)));
        int many = 0;
        for (int i : order) {
            F f = films.get(i);
            if (f.section == null && !f.gone && !isInQuarrel(i) && (s.form == '-' || s.form == f.form) && score(i) >= s.least
                && PREMIERES.indexOf(f.still) >= PREMIERES.indexOf(s.premiere) && of(section).size() < s.quota
                && minutes(section) + f.minutes <= s.budget) {
                f.section = section;
                f.promise = s.premiere;
                note('c', i);
                many++;
            }
        }
        return many;
    }

    public int sectionOf(int film) {
        F f = pick(films, film);
        there(f.section != null);
        return f.section;
    }

    public int minutes(int section) {
        pick(sections, section);
        return of(section).stream().mapToInt(i -> films.get(i).minutes).sum();
    }

    public char giveUp(int film) {
        F f = pick(films, film);
        can(f.promise != '-');
        char before = f.promise;
        f.promise = '-';
        note('g', film);
        return before;
    }

    public boolean isBroken(int film) {
        F f = pick(films, film);
        return PREMIERES.indexOf(f.still) < PREMIERES.indexOf(f.promise);
    }

    public int screen(int seats, boolean hasGear) {
        legal(in(seats, 1, 9));
        room(screens.size() < 4);
        screens.add(new int[] {seats, hasGear ? 1 : 0});
        return screens.size() - 1;
    }

    public boolean print(int film, char kind, int at) {
        F f = pick(films, film);
        legal((kind == 'r' || kind == 'd') && in(at, 0, 49));
        boolean had = f.kind != null;
        f.kind = kind;
        f.comes = at;
        return had;
    }

    public int key(int film, int screen, int from, int to) {
        pick(films, film);
        pick(screens, screen);
        legal(in(from, 0, 49) && in(to, 0, 49) && from <= to);
        room(keys.size() < 60);
        keys.add(new int[] {film, screen, from, to});
        return keys.size();
    }

    public boolean canShow(int film, int screen, int at) {
        F f = pick(films, film);
        pick(screens, screen);
        legal(in(at, 0, 49));
        if (f.kind == null || f.comes > at) {
            return false;
        }
        if (f.kind == 'r') {
            return screens.get(screen)[1] == 1;
        }
        return keys.stream().anyMatch(k -> k[0] == film && k[1] == screen && in(at, k[2], k[3]));
    }

    private List<Integer> hours(int film, int first) {
        return films.get(film).minutes <= 150 ? List.of(first) : List.of(first, first + 1);
    }

    private boolean settable(int film, int screen, int first) {
        for (int h : hours(film, first)) {
            if (h < hour || h / 5 != first / 5 || storms.contains(h / 5) || !canShow(film, screen, h)) {
                return false;
            }
            for (Sh s : shows) {
                if (s.cause == null && s.hours.contains(h) && (s.screen == screen || s.film == film
                    || films.get(film).section.equals(films.get(s.film).section))) {
                    return false;
                }
            }
        }
        return true;
    }

    private int put(int film, int screen, int first) {
        Sh s = new Sh();
        s.number = shows.size();
        s.film = film;
        s.screen = screen;
        s.hours = hours(film, first);
        shows.add(s);
        note('s', film);
        return s.number;
    }

    private Sh putFirst(int film) {
        for (int place = hour * 4; place < 200; place++) {
            if (place % 4 < screens.size() && settable(film, place % 4, place / 4)) {
                return shows.get(put(film, place % 4, place / 4));
            }
        }
        return null;
    }

    public int show(int film, int screen, int at) {
        F f = pick(films, film);
        pick(screens, screen);
        legal(in(at, 0, 49));
        can(f.section != null && settable(film, screen, at));
        room(shows.size() < 60);
        return put(film, screen, at);
    }

    private List<Sh> toCome(java.util.function.Predicate<Sh> which) {
        List<Sh> all = new ArrayList<>();
        for (Sh s : shows) {
            if (state(s.number) == 't' && which.test(s)) {
                all.add(s);
            }
        }
        return all;
    }

    public int plan(int section) {
        pick(sections, section);
        List<Integer> bare = new ArrayList<>();
        for (int i : of(section)) {
            if (toCome(s -> s.film == i).isEmpty()) {
                bare.add(i);
            }
        }
        room(shows.size() + bare.size() <= 60);
        bare.sort(Comparator.comparingInt(i -> -films.get(i).minutes));
        int many = 0;
        for (int i : bare) {
            many += putFirst(i) == null ? 0 : 1;
        }
        return many;
    }

    public int of(int show, char what) {
        Sh s = pick(shows, show);
        Map<Character, Integer> parts = Map.of('f', s.film, 's', s.screen, 'h', s.hours.get(0), 'l', s.hours.size());
        legal(parts.containsKey(what));
        return parts.get(what);
    }

    public char state(int show) {
        Sh s = pick(shows, show);
        if (s.cause != null) {
            return s.cause;
        }
        if (s.hours.contains(hour)) {
            return 'n';
        }
        return s.hours.get(0) > hour ? 't' : 'o';
    }

    public int at(int screen, int at) {
        pick(screens, screen);
        legal(in(at, 0, 49));
        for (Sh s : shows) {
            if (s.cause == null && s.screen == screen && s.hours.contains(at)) {
                return s.number;
            }
        }
        throw new NoSuchElementException();
    }

    public int go(int hours) {
        legal(in(hours, 1, 50));
        room(hour + hours <= 50);
        hour += hours;
        return hour;
    }

    public int now() {
        return hour;
    }

    private int move(List<Sh> gone, char cause) {
        for (Sh s : gone) {
            s.cause = cause;
            note('x', s.film);
        }
        for (Sh s : gone) {
            Sh anew = putFirst(s.film);
            if (anew != null) {
                anew.queue = new ArrayList<>(s.queue);
            }
        }
        return gone.size();
    }

    public int storm(int day) {
        legal(in(day, 0, 9));
        can(!storms.contains(day));
        List<Sh> gone = toCome(s -> s.hours.get(0) / 5 == day);
        room(shows.size() + gone.size() <= 60);
        storms.add(day);
        return move(gone, 's');
    }

    public int late(int film, int at) {
        F f = pick(films, film);
        legal(at <= 49 && (f.kind == null || at > f.comes));
        can(f.kind != null);
        int before = f.comes;
        f.comes = at;
        List<Sh> gone = toCome(s -> s.film == film && !s.hours.stream().allMatch(h -> canShow(film, s.screen, h)));
        if (shows.size() + gone.size() > 60) {
            f.comes = before;
            throw new IllegalStateException();
        }
        return move(gone, 'l');
    }

    public int withdraw(int film) {
        F f = pick(films, film);
        can(!f.gone);
        List<Sh> gone = toCome(s -> s.film == film);
        for (Sh s : gone) {
            s.cause = 'w';
            note('x', film);
        }
        f.gone = true;
        f.section = null;
        f.promise = '-';
        return gone.size();
    }

    public int pass(int rank) {
        legal(in(rank, 0, 3));
        room(passes.size() < 16);
        passes.add(rank);
        return passes.size() - 1;
    }

    public int join(int pass, int show) {
        pick(passes, pass);
        Sh s = pick(shows, show);
        can(state(show) == 't' && !s.opened && !s.queue.contains(pass));
        s.queue.add(pass);
        return s.queue.size();
    }

    public int open(int show) {
        Sh s = pick(shows, show);
        can("tn".indexOf(state(show)) >= 0 && !s.opened && s.hours.get(0) >= hour);
        s.opened = true;
        note('o', s.film);
        List<Integer> order = new ArrayList<>(s.queue);
        order.sort(Comparator.comparingInt(passes::get));
        for (int p : order) {
            boolean busy = shows.stream().anyMatch(o -> o != s && o.cause == null && o.seated.contains(p)
                && o.hours.stream().anyMatch(s.hours::contains));
            if (!busy && s.seated.size() < screens.get(s.screen)[0]) {
                s.seated.add(p);
            }
        }
        return s.seated.size();
    }

    public boolean hasSeat(int pass, int show) {
        pick(passes, pass);
        return pick(shows, show).seated.contains(pass);
    }

    public int juror(int section, int land) {
        S s = pick(sections, section);
        legal(in(land, 0, 9));
        room(s.jury.size() < 5);
        J j = new J();
        j.land = land;
        s.jury.add(j);
        return s.jury.size() - 1;
    }

    public char rule(int section, char rule) {
        S s = pick(sections, section);
        legal("mbcr".indexOf(rule) >= 0);
        char before = s.rule;
        s.rule = rule;
        return before;
    }

    public int see(int section, int juror, int show) {
        J j = pick(pick(sections, section).jury, juror);
        Sh s = pick(shows, show);
        can(state(show) == 'n' && of(section).contains(s.film) && j.byHour.getOrDefault(hour, show) == show);
        j.byHour.put(hour, show);
        j.saw.add(s.film);
        return (int) of(section).stream().filter(j.saw::contains).count();
    }

    public int type(int film) {
        pick(films, film);
        room(typed.size() < 9);
        typed.add(film);
        return typed.size();
    }

    public int wipe() {
        int before = typed.size();
        typed.clear();
        return before;
    }

    public int rank(int section, int juror) {
        S s = pick(sections, section);
        J j = pick(s.jury, juror);
        List<Integer> due = of(section);
        due.removeIf(i -> films.get(i).land == j.land);
        List<Integer> sorted = new ArrayList<>(typed);
        sorted.sort(null);
        can(!due.isEmpty() && due.equals(sorted) && j.saw.containsAll(due));
        j.ballot = typed;
        typed = new ArrayList<>();
        return (int) s.jury.stream().filter(x -> x.ballot != null).count();
    }

    private List<List<Integer>> ballots(S s, Set<Integer> out) {
        List<List<Integer>> all = new ArrayList<>();
        for (J j : s.jury) {
            if (j.ballot != null) {
                List<Integer> left = new ArrayList<>(j.ballot);
                left.removeIf(i -> films.get(i).gone || out.contains(i));
                if (!left.isEmpty()) {
                    all.add(left);
                }
            }
        }
        return all;
    }

    private static Map<Integer, Integer> count(List<List<Integer>> ballots, boolean points) {
        Map<Integer, Integer> sums = new TreeMap<>();
        for (List<Integer> ballot : ballots) {
            for (int i = 0; i < ballot.size(); i++) {
                sums.merge(ballot.get(i), points ? ballot.size() - 1 - i : i == 0 ? 1 : 0, Integer::sum);
            }
        }
        return sums;
    }

    private static int best(Map<Integer, Integer> sums) {
        Map.Entry<Integer, Integer> best = null;
        for (Map.Entry<Integer, Integer> e : sums.entrySet()) {
            if (best == null || e.getValue() > best.getValue()) {
                best = e;
            }
        }
        return best.getKey();
    }

    private int duels(List<List<Integer>> ballots) {
        Map<Integer, Integer> points = count(ballots, true);
        for (int a : points.keySet()) {
            boolean wins = true;
            for (int b : points.keySet()) {
                long ahead = ballots.stream().filter(x -> x.contains(a) && x.contains(b) && x.indexOf(a) < x.indexOf(b)).count();
                long behind = ballots.stream().filter(x -> x.contains(a) && x.contains(b) && x.indexOf(a) > x.indexOf(b)).count();
                wins &= a == b || ahead > behind;
            }
            if (wins) {
                return a;
            }
        }
        return best(points);
    }

    private int rounds(S s) {
        Set<Integer> out = new HashSet<>();
        while (true) {
            List<List<Integer>> ballots = ballots(s, out);
            Map<Integer, Integer> firsts = count(ballots, false);
            Map<Integer, Integer> fewest = new LinkedHashMap<>();
            for (Map.Entry<Integer, Integer> e : firsts.entrySet()) {
                if (e.getValue() * 2 > ballots.size()) {
                    return e.getKey();
                }
                fewest.put(e.getKey(), e.getValue());
            }
            int least = fewest.values().stream().mapToInt(x -> x).min().getAsInt();
            out.add(fewest.keySet().stream().filter(k -> fewest.get(k) == least).mapToInt(k -> k).max().getAsInt());
        }
    }

    public int winner(int section) {
        S s = pick(sections, section);
        List<List<Integer>> ballots = ballots(s, Set.of());
        there(!ballots.isEmpty());
        switch (s.rule) {
            case 'm': return best(count(ballots, false));
            case 'b': return best(count(ballots, true));
            case 'c': return duels(ballots);
            default: return rounds(s);
        }
    }

    public int award(int section) {
        S s = pick(sections, section);
        can(!s.given);
        int film = winner(section);
        can(!isBroken(film));
        s.given = true;
        note('p', film);
        return film;
    }

    public int sell(int film, int land, int from, int to, int buyer) {
        F f = pick(films, film);
        legal(in(land, 0, 9) && in(from, 0, 99) && in(to, from, 99) && in(buyer, 0, 9));
        can(!f.gone);
        for (int month = from; month <= to; month++) {
            can(buyer(film, land, month) < 0);
        }
        room(deals.size() < 40);
        deals.add(new int[] {film, land, from, to, buyer});
        note('d', film);
        return deals.size();
    }

    private int buyer(int film, int land, int month) {
        for (int[] d : deals) {
            if (d[0] == film && d[1] == land && in(month, d[2], d[3])) {
                return d[4];
            }
        }
        return -1;
    }

    public int owner(int film, int land, int month) {
        pick(films, film);
        legal(in(land, 0, 9) && in(month, 0, 99));
        there(buyer(film, land, month) >= 0);
        return buyer(film, land, month);
    }

    public int line(int index, boolean isFilm) {
        there(in(index, 0, lines.size() - 1));
        return lines.get(index)[isFilm ? 1 : 0];
    }

    public long checksum() {
        long c = 7;
        for (Sh s : shows) {
            c = c * 31 + s.film;
            c = c * 31 + (s.screen + 10 * s.hours.get(0));
            c = c * 31 + state(s.number);
        }
        return c;
    }

    public float shownShare() {
        int all = 0;
        int shown = 0;
        for (int i = 0; i < films.size(); i++) {
            int film = i;
            if (films.get(i).section != null) {
                all++;
                shown += shows.stream().anyMatch(s -> s.film == film && s.cause == null) ? 1 : 0;
            }
        }
        if (all == 0) {
            throw new ArithmeticException();
        }
        return (float) shown / (float) all;
    }

    public double meanScore() {
        int all = 0;
        int sum = 0;
        for (int i = 0; i < films.size(); i++) {
            if (!films.get(i).told.isEmpty()) {
                all++;
                sum += score(i);
            }
        }
        if (all == 0) {
            throw new ArithmeticException();
        }
        return (double) sum / (double) all;
    }

    public boolean isSound() {
        return true;
    }
}
