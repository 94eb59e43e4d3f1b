/** Festivals that tests begin with. */
final class Stage {
    private Stage() {
    }

    /** Films of these minutes, all with a reel from hour 0, all in section 0. */
    static Juryreel withChosen(int... minutes) {
        Juryreel f = new Juryreel();
        f.reader(9);
        for (int i = 0; i < minutes.length; i++) {
            addFilm(f, i, minutes[i], i % 9);
        }
        f.section(9, 2000, 0, '-', '-');
        f.choose(0);
        return f;
    }

    static void addFilm(Juryreel f, int number, int minutes, int land) {
        f.film('f', minutes, land);
        f.deal(number, 1);
        f.read(number, 0, 50);
        f.print(number, 'r', 0);
    }

    /** The same with one film for each of so many sections. */
    static Juryreel withSections(int... minutes) {
        Juryreel f = new Juryreel();
        f.reader(9);
        for (int i = 0; i < minutes.length; i++) {
            addFilm(f, i, minutes[i], i % 9);
            f.section(1, 2000, 0, '-', '-');
            f.choose(i);
        }
        return f;
    }
}
