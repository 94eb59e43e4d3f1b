import java.util.NoSuchElementException;

/** Counts checks; a test ends with Check.end(), whose last line .ci/run adds up. */
final class Check {
    private static int passed = 0;
    private static int failed = 0;

    interface Call {
        Object run();
    }

    private Check() {
    }

    static void same(String what, Object got, Object want) {
        if (want.equals(got)) {
            passed++;
        } else {
            failed++;
            System.out.println("FAILED " + what + ": " + got + ", due is " + want);
        }
    }

    /** Tells what a call answers, or the name of what it throws. */
    static Object answer(Call call) {
        try {
            return call.run();
        } catch (RuntimeException e) {
            return e.getClass().getSimpleName();
        }
    }

    /** The call must throw just this, and leave what the festival holds as it was. */
    static void raises(String what, Juryreel festival, Class<?> due, Call call) {
        String before = Held.of(festival);
        same(what, answer(call), due.getSimpleName());
        same(what + " changes nothing", Held.of(festival).equals(before), true);
    }

    static void outside(String what, Juryreel festival, Call call) {
        raises(what, festival, IndexOutOfBoundsException.class, call);
    }

    static void illegal(String what, Juryreel festival, Call call) {
        raises(what, festival, IllegalArgumentException.class, call);
    }

    static void full(String what, Juryreel festival, Call call) {
        raises(what, festival, IllegalStateException.class, call);
    }

    static void refused(String what, Juryreel festival, Call call) {
        raises(what, festival, UnsupportedOperationException.class, call);
    }

    static void missing(String what, Juryreel festival, Call call) {
        raises(what, festival, NoSuchElementException.class, call);
    }

    static void end() {
        System.out.println("COUNT " + passed + " " + failed);
        if (failed != 0) {
            System.exit(1);
        }
    }
}
