/** Counts the answers that are not as due; a test ends with finish(). */
final class Check {
    private static int wrong = 0;
    private static int seen = 0;

    private Check() {
    }

    static void same(String what, long got, long want) {
        seen++;
        if (got != want) {
            wrong++;
            System.out.println(what + " answered " + got + ", due is " + want);
        }
    }

    static void yes(String what, boolean got) {
        same(what, got ? 1 : 0, 1);
    }

    static void no(String what, boolean got) {
        same(what, got ? 1 : 0, 0);
    }

    static void fails(String what, Class<? extends RuntimeException> due, Runnable call) {
        seen++;
        Class<?> got = null;
        try {
            call.run();
        } catch (RuntimeException e) {
            got = e.getClass();
        }
        if (got != due) {
            wrong++;
            System.out.println(what + " threw " + got + ", due is " + due);
        }
    }

    /** The call throws and everything that can be asked of the court is as before. */
    static void failsIdly(String what, StepCourt court, Class<? extends RuntimeException> due, Runnable call) {
        String before = Courts.picture(court);
        fails(what, due, call);
        yes(what + " changes nothing", before.equals(Courts.picture(court)));
    }

    static void finish() {
        System.out.println(seen + " checks, " + wrong + " wrong");
        if (wrong != 0) {
            System.exit(1);
        }
    }
}
