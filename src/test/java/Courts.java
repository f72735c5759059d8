/** Short ways to bring a court where a test wants it. */
final class Courts {
    static final Class<IndexOutOfBoundsException> INDEX = IndexOutOfBoundsException.class;
    static final Class<IllegalStateException> STATE = IllegalStateException.class;
    static final Class<IllegalArgumentException> ARGUMENT = IllegalArgumentException.class;
    static final Class<UnsupportedOperationException> ROOM = UnsupportedOperationException.class;

    private Courts() {
    }

    /** A court whose code begins with these pairs of op and argument. */
    static StepCourt coded(int... pairs) {
        StepCourt court = new StepCourt();
        for (int i = 0; i + 1 < pairs.length; i += 2) {
            Check.yes("code " + i / 2, court.code(i / 2, pairs[i], pairs[i + 1]));
        }
        return court;
    }

    static void blocks(StepCourt court, int n) {
        for (int i = 0; i < n; i++) {
            court.block();
        }
    }

    /** Party p asserts this commitment, and nobody disputes it until it stands. */
    static void standing(StepCourt court, int p, int steps, long commitment) {
        court.claim(p, steps, court.truth(steps) ^ commitment);
        blocks(court, 12);
        Check.same("it stood", court.assertion(0), -1);
        Check.same("the base", court.base(), commitment);
    }

    static void standingTruth(StepCourt court, int p, int steps) {
        standing(court, p, steps, court.truth(steps));
    }

    /** Posts the truth and picks until the step from low to low + 1 is left. */
    static void halve(StepCourt court, int g, int low) {
        while (court.game(g, 7) == 1) {
            court.post(g, 0);
            court.pick(g, (court.game(g, 1) + court.game(g, 2)) / 2 > low);
        }
        Check.same("low", court.game(g, 1), low);
        Check.same("high", court.game(g, 2), low + 1);
    }

    /** The answers of all calls that only ask: some 250, more than a court is promised for if done often. */
    static String picture(StepCourt court) {
        StringBuilder text = new StringBuilder();
        text.append(court.pot()).append(' ').append(court.base());
        for (int p = -1; p <= 4; p++) {
            text.append(" b").append(court.balance(p));
        }
        for (int k = -1; k <= 61; k++) {
            text.append(" w").append(court.word(k));
        }
        for (int j = -1; j <= 65; j++) {
            text.append(" t").append(court.truth(j));
        }
        for (int what = -1; what <= 14; what++) {
            text.append(" s").append(court.state(what)).append(" a").append(court.assertion(what));
            for (int g = -1; g <= 3; g++) {
                text.append(" g").append(court.game(g, what));
            }
        }
        return text.toString();
    }
}
