import java.util.ArrayList;
import java.util.List;
import java.util.function.LongSupplier;

/** Short ways to bring a court where a test wants it. No court here comes near its 512 calls. */
final class Courts {
    static final Class<IndexOutOfBoundsException> INDEX = IndexOutOfBoundsException.class;
    static final Class<IllegalStateException> STATE = IllegalStateException.class;
    static final Class<IllegalArgumentException> ARGUMENT = IllegalArgumentException.class;
    static final Class<UnsupportedOperationException> ROOM = UnsupportedOperationException.class;
    static final int MIN = Integer.MIN_VALUE;
    static final int MAX = Integer.MAX_VALUE;
    static final int[] NO_PARTIES = {-1, 4, 5, MIN, MAX};

    private Courts() {
    }

    /** A court whose code begins with these pairs of op and argument. */
    static StepCourt coded(int... pairs) {
        StepCourt court = new StepCourt();
        for (int i = 0; i + 1 < pairs.length; i += 2) {
            Check.yes("code " + i / 2, court.code(i / 2, pairs[i], pairs[i + 1]));
        }
        return court;
    }

    /** Counts a up by 1 with each second step, so that no two steps lead to the same state. */
    static StepCourt counter() {
        return coded(2, 1, 4, 0, 10, 1);
    }

    /** Its inbox has the words 1, 2 and so on. */
    static StepCourt withWords(int n) {
        StepCourt court = new StepCourt();
        for (int i = 1; i <= n; i++) {
            Check.same("send", court.send(i), i);
        }
        return court;
    }

    /** A counter of which party 0 asserts something true about so many steps. */
    static StepCourt asserted(int steps) {
        StepCourt court = counter();
        court.claim(0, steps, 0);
        return court;
    }

    /** Party 1 disputes that in game 0. */
    static StepCourt disputed(int steps) {
        StepCourt court = asserted(steps);
        Check.same("challenge", court.challenge(1), 0);
        return court;
    }

    /** The asserter has posted a middle in game 0. */
    static StepCourt posted(int steps) {
        StepCourt court = disputed(steps);
        court.post(0, 0);
        return court;
    }

    /** Game 0 is over, the assertion still there. */
    static StepCourt proven() {
        StepCourt court = disputed(1);
        Check.yes("proof", court.prove(0, 0, 0));
        return court;
    }

    static void blocks(StepCourt court, int n) {
        for (int i = 0; i < n; i++) {
            court.block();
        }
    }

    /** Party p asserts this commitment, and nobody disputes it until it stands. */
    static void standing(StepCourt court, int p, int steps, long commitment) {
        court.claim(p, steps, court.truth(steps) ^ commitment);
        blocks(court, 12);
        Check.same("it stood", court.assertion(0), -1);
        Check.same("the base", court.base(), commitment);
    }

    static void standingTruth(StepCourt court, int p, int steps) {
        standing(court, p, steps, court.truth(steps));
    }

    /** Posts the truth and picks until the step from low to low + 1 is left. */
    static void halve(StepCourt court, int g, int low) {
        for (int round = 0; round < 6 && court.game(g, 7) == 1; round++) {
            court.post(g, 0);
            court.pick(g, (court.game(g, 1) + court.game(g, 2)) / 2 > low);
        }
        Check.same("low", court.game(g, 1), low);
        Check.same("high", court.game(g, 2), low + 1);
    }

    /** What all calls that only ask answer, and then some calls that show what is hidden: some 270 calls. */
    static String[] answers(StepCourt court) {
        List<String> all = new ArrayList<>();
        ask(all, court);
        use(all, court);
        askShortly(all, court);
        return all.toArray(new String[0]);
    }

    private static void add(List<String> all, String call, LongSupplier answer) {
        String got;
        try {
            got = "" + answer.getAsLong();
        } catch (RuntimeException e) {
            got = e.getClass().getName();
        }
        all.add(call + " = " + got);
    }

    private static void ask(List<String> all, StepCourt court) {
        for (int i = -1; i <= 64; i++) {
            int k = i;
            add(all, "truth " + k, () -> court.truth(k));
            if (k <= 60) {
                add(all, "word " + k, () -> court.word(k));
            }
        }
        askShortly(all, court);
    }

    private static void askShortly(List<String> all, StepCourt court) {
        add(all, "pot", court::pot);
        add(all, "base", court::base);
        for (int i = 0; i <= 13; i++) {
            int k = i;
            add(all, "state " + k, () -> court.state(k));
        }
        for (int i = 0; i <= 6; i++) {
            int k = i;
            add(all, "assertion " + k, () -> court.assertion(k));
        }
        for (int i = 0; i < 4; i++) {
            int p = i;
            add(all, "balance " + p, () -> court.balance(p));
        }
        for (int i = 0; i < 24; i++) {
            int g = i / 8;
            int what = i % 8;
            add(all, "game " + g + " what " + what, () -> court.game(g, what));
        }
    }

    /** What was drawn, the code and the block number can't be asked for. */
    private static void use(List<String> all, StepCourt court) {
        for (int i = 0; i < 30; i++) {
            int k = i;
            add(all, "draw " + k, () -> court.draw(k));
        }
        for (int i = 0; i < 3; i++) {
            int g = i;
            add(all, "post in " + g, () -> court.post(g, 5));
            add(all, "pick in " + g, () -> court.pick(g, true));
        }
        add(all, "block", court::block);
        add(all, "code", () -> court.code(0, 1, 77) ? 1 : 0);
        add(all, "challenge", () -> court.challenge(3));
        add(all, "claim", () -> court.claim(2, 1, 0));
        for (int i = 0; i < 13; i++) {
            add(all, "block", court::block);
        }
    }
}
