import java.util.NoSuchElementException;

/** Counts checks; a test ends with Check.end(), whose last line .ci/run adds up. */
final class Check {
    private static int passed = 0;
    private static int failed = 0;

    interface Call {
        Object run();
    }

    private Check() {
    }

    static void same(String what, Object got, Object want) {
        if (want.equals(got)) {
            passed++;
        } else {
            failed++;
            System.out.println("FAILED " + what + ": " + got + ", due is " + want);
        }
    }

    /** Tells what a call answers, or the name of what it throws. */
    static Object answer(Call call) {
        try {
            return call.run();
        } catch (RuntimeException e) {
            return e.getClass().getSimpleName();
        }
    }

    /** The call must throw just this, and leave what can be asked as it was. */
    static void raises(String what, Juryreel festival, Class<?> due, Call call) {
        String before = look(festival);
        same(what, answer(call), due.getSimpleName());
        same(what + " changes nothing", look(festival), before);
    }

    static void outside(String what, Juryreel festival, Call call) {
        raises(what, festival, IndexOutOfBoundsException.class, call);
    }

    static void illegal(String what, Juryreel festival, Call call) {
        raises(what, festival, IllegalArgumentException.class, call);
    }

    static void full(String what, Juryreel festival, Call call) {
        raises(what, festival, IllegalStateException.class, call);
    }

    static void refused(String what, Juryreel festival, Call call) {
        raises(what, festival, UnsupportedOperationException.class, call);
    }

    static void missing(String what, Juryreel festival, Call call) {
        raises(what, festival, NoSuchElementException.class, call);
    }

    /** All that can be asked of a festival without changing it. */
    static String look(Juryreel f) {
        StringBuilder text = new StringBuilder();
        text.append(f.now()).append(' ').append(f.checksum()).append(' ').append(f.isSound());
        text.append(' ').append(answer(f::shownShare)).append(' ').append(answer(f::meanScore));
        for (int i = 0; i < 20; i++) {
            lookAtFilm(f, i, text);
        }
        for (int i = 0; i < 5; i++) {
            int section = i;
            text.append("\nsection ").append(answer(() -> f.minutes(section))).append(' ').append(answer(() -> f.winner(section)));
            text.append(' ').append(answer(() -> lookAtRule(f, section)));
        }
        for (int i = 0; i < 60; i++) {
            lookAtShow(f, i, text);
        }
        for (int i = 0; i < 400; i++) {
            int index = i;
            Object letter = answer(() -> f.line(index, false));
            if (!(letter instanceof Integer)) {
                break;
            }
            text.append("\nline ").append((char) (int) (Integer) letter).append(f.line(index, true));
        }
        return text.toString();
    }

    private static char lookAtRule(Juryreel f, int section) {
        char before = f.rule(section, 'm');
        f.rule(section, before);
        return before;
    }

    private static void lookAtFilm(Juryreel f, int film, StringBuilder text) {
        if (answer(() -> f.isInQuarrel(film)).equals("IndexOutOfBoundsException")) {
            return;
        }
        text.append("\nfilm ").append(f.isInQuarrel(film)).append(answer(() -> f.score(film)));
        text.append(answer(() -> f.sectionOf(film))).append(f.isBroken(film));
        for (int i = 0; i < 8; i++) {
            int reader = i;
            text.append(' ').append(answer(() -> f.isDealt(film, reader))).append(answer(() -> f.even(film, reader)));
        }
        for (int i = 0; i < 200; i++) {
            int place = i;
            text.append(answer(() -> f.canShow(film, place / 50, place % 50)).toString().charAt(0));
        }
        for (int i = 0; i < 1000; i++) {
            int place = i;
            String owner = answer(() -> f.owner(film, place / 100, place % 100)).toString();
            text.append(owner.length() == 1 ? owner : "");
        }
    }

    private static void lookAtShow(Juryreel f, int show, StringBuilder text) {
        if (answer(() -> f.state(show)).equals("IndexOutOfBoundsException")) {
            return;
        }
        text.append("\nshow ").append(f.of(show, 'f')).append(' ').append(f.of(show, 's')).append(' ');
        text.append(f.of(show, 'h')).append(' ').append(f.of(show, 'l')).append(f.state(show));
        for (int i = 0; i < 16; i++) {
            int pass = i;
            text.append(answer(() -> f.hasSeat(pass, show)).toString().charAt(0));
        }
    }

    static void end() {
        System.out.println("COUNT " + passed + " " + failed);
        if (failed != 0) {
            System.exit(1);
        }
    }
}
