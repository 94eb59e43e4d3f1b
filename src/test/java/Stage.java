/** Festivals that tests begin with. */
final class Stage {
    private Stage() {
    }

    /** Films of these minutes, all with a reel from hour 0, all in section 0. */
    static Juryreel withChosen(int... minutes) {
        Juryreel f = new Juryreel();
        f.reader(9);
        for (int i = 0; i < minutes.length; i++) {
            addFilm(f, i, minutes[i], i % 9);
        }
        f.section(9, 2000, 0, '-', '-');
        f.choose(0);
        return f;
    }

    static void addFilm(Juryreel f, int number, int minutes, int land) {
        f.film('f', minutes, land);
        f.deal(number, 1);
        f.read(number, 0, 50);
        f.print(number, 'r', 0);
    }

    /** The same with one film for each of so many sections. */
    static Juryreel withSections(int... minutes) {
        Juryreel f = new Juryreel();
        f.reader(9);
        for (int i = 0; i < minutes.length; i++) {
            addFilm(f, i, minutes[i], i % 9);
            f.section(1, 2000, 0, '-', '-');
            f.choose(i);
        }
        return f;
    }

    /** So many films of ten minutes that nothing was told of, of lands but 9. */
    static Juryreel withFilms(int many) {
        Juryreel f = new Juryreel();
        for (int i = 0; i < many; i++) {
            f.film('f', 10, i % 9);
        }
        return f;
    }

    /** The same with so many readers, of land 9, each of whom told 50 of each film. */
    static Juryreel withRead(int films, int readers) {
        Juryreel f = withFilms(films);
        for (int i = 0; i < readers; i++) {
            f.reader(9);
        }
        for (int i = 0; i < films; i++) {
            f.deal(i, readers);
            for (int j = 0; j < readers; j++) {
                f.read(i, j, 50);
            }
        }
        return f;
    }

    /** The same with three sections of this premiere, who choose nine films each as long as there are some. */
    static Juryreel withChosenFor(int films, char premiere) {
        Juryreel f = withRead(films, 1);
        for (int i = 0; i < 3; i++) {
            f.section(9, 2000, 0, '-', premiere);
            f.choose(i);
        }
        return f;
    }

    static Juryreel withSectionsOnly(int many) {
        Juryreel f = new Juryreel();
        for (int i = 0; i < many; i++) {
            f.section(9, 2000, 0, '-', '-');
        }
        return f;
    }

    static Juryreel addScreens(Juryreel f, int many) {
        for (int i = 0; i < many; i++) {
            f.screen(9, true);
        }
        return f;
    }

    /** So many shows to come, on two screens from hour 1 on, of film 0 of section 0 and film 1 of section 1. */
    static Juryreel withShows(int many) {
        Juryreel f = addScreens(withSections(10, 10), 2);
        for (int i = 0; i < many; i++) {
            f.show(i / 30, i / 30, 1 + i % 30);
        }
        return f;
    }

    /** A film in section 0 that is shown now, and so many jurors of the section. */
    static Juryreel withJurors(int many) {
        Juryreel f = addScreens(withChosen(10), 1);
        f.show(0, 0, 0);
        for (int i = 0; i < many; i++) {
            f.juror(0, 9);
        }
        return f;
    }
}
