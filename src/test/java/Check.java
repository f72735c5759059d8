import java.util.function.Consumer;
import java.util.function.Supplier;

/** Counts the answers that are not as due, sentence by sentence; a test ends with finish(). */
final class Check {
    private static String words = "";
    private static int wrong = 0;
    private static int seen = 0;
    private static int sentences = 0;

    private Check() {
    }

    /** Tests one sentence of the document, whose words are told with each wrong answer. */
    static void sentence(String ofTheDocument, Runnable test) {
        words = ofTheDocument;
        sentences++;
        int seenBefore = seen;
        try {
            test.run();
        } catch (RuntimeException e) {
            tellWrong("the test was cut off by " + e);
        }
        if (seen == seenBefore) {
            tellWrong("nothing was looked at");
        }
        words = "";
    }

    private static void tellWrong(String what) {
        wrong++;
        System.out.println((words.isEmpty() ? "" : "\"" + words + "\": ") + what);
    }

    static void same(String what, long got, long want) {
        seen++;
        if (got != want) {
            tellWrong(what + " answered " + got + ", due is " + want);
        }
    }

    static void yes(String what, boolean got) {
        same(what, got ? 1 : 0, 1);
    }

    static void no(String what, boolean got) {
        same(what, got ? 1 : 0, 0);
    }

    static void fails(String what, Class<? extends RuntimeException> due, Runnable call) {
        seen++;
        Class<?> got = null;
        try {
            call.run();
        } catch (RuntimeException e) {
            got = e.getClass();
        }
        if (got != due) {
            tellWrong(what + " threw " + got + ", due is " + due);
        }
    }

    /** A court that had the call answers everything as one that had not. */
    static void idle(String what, Supplier<StepCourt> maker, Consumer<StepCourt> call) {
        StepCourt with = maker.get();
        call.accept(with);
        String[] got = Courts.answers(with);
        String[] want = Courts.answers(maker.get());
        seen++;
        for (int i = 0; i < want.length; i++) {
            if (!got[i].equals(want[i])) {
                tellWrong(what + " changed something: then " + got[i] + ", else " + want[i]);
                return;
            }
        }
    }

    /** The call throws, and changes nothing. */
    static void refused(String what, Supplier<StepCourt> maker, Class<? extends RuntimeException> due,
            Consumer<StepCourt> call) {
        idle(what, maker, court -> fails(what, due, () -> call.accept(court)));
    }

    static void balances(StepCourt court, int... due) {
        for (int p = 0; p < due.length; p++) {
            same("balance " + p, court.balance(p), due[p]);
        }
    }

    /** The assertion is asked for what 0, 1 and so on. */
    static void assertion(StepCourt court, long... due) {
        for (int what = 0; what < due.length; what++) {
            same("assertion " + what, court.assertion(what), due[what]);
        }
    }

    /** Game g is asked for what 0, 1 and so on. */
    static void game(StepCourt court, int g, long... due) {
        for (int what = 0; what < due.length; what++) {
            same("game " + g + " what " + what, court.game(g, what), due[what]);
        }
    }

    static void noAssertion(StepCourt court) {
        for (int what = 0; what <= 6; what++) {
            same("assertion " + what, court.assertion(what), -1);
        }
        for (int g = 0; g <= 2; g++) {
            same("game " + g, court.game(g, 0), -1);
        }
    }

    /** The true commitment after some steps is that of the view. */
    static void after(StepCourt court, int steps, View view) {
        same("truth " + steps, court.truth(steps), view.commitment());
    }

    static void finish() {
        System.out.println(sentences + " sentences, " + seen + " checks, " + wrong + " wrong");
        if (wrong != 0) {
            System.exit(1);
        }
    }
}
