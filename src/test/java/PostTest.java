/** Promise 7: post. */
public final class PostTest {
    public static void main(String[] args) {
        Check.sentence("The asserter posts in game g the true commitment M ^ x as the middle", PostTest::middle);
        Check.sentence("answers it.", PostTest::answer);
        Check.sentence("IndexOutOfBoundsException (there is no game g)", PostTest::noGame);
        Check.sentence("IllegalStateException (it isn't running", PostTest::notRunning);
        Check.sentence("or not that is to be done).", PostTest::notToBeDone);
        Check.finish();
    }

    private static void middle() {
        for (long x : new long[] {0, 1, -1L, Long.MIN_VALUE, Long.MAX_VALUE}) {
            StepCourt court = Courts.disputed(9);
            court.block();
            court.post(0, x);
            Check.game(court, 0, 1, 0, 9, court.base(), court.truth(9), court.truth(4) ^ x, 5, 2);
        }
        StepCourt lied = Courts.disputed(9);
        lied.post(0, 5);
        lied.pick(0, false);
        Check.same("the truth after a lie", lied.post(0, 0), lied.truth(6));
        StepCourt limited = Courts.coded(9, 0, 9, 0);
        limited.claim(0, 2, 0);
        limited.challenge(1);
        limited.send(5);
        Check.same("with the assertion's limit", limited.post(0, 0), new View().commitment());
        StepCourt two = Courts.disputed(4);
        two.challenge(2);
        two.post(1, 3);
        Check.game(two, 0, 1, 0, 4, two.base(), two.truth(4), 0, 4, 1);
        Check.game(two, 1, 2, 0, 4, two.base(), two.truth(4), two.truth(2) ^ 3, 4, 2);
    }

    private static void answer() {
        StepCourt court = Courts.disputed(9);
        Check.same("post", court.post(0, -7), court.truth(4) ^ -7);
        court.pick(0, false);
        Check.same("post again", court.post(0, 0), court.truth(6));
        StepCourt zero = Courts.disputed(2);
        Check.same("0 too", zero.post(0, zero.truth(1)), 0);
    }

    private static void noGame() {
        for (int g : new int[] {-1, 1, 2, 3, Courts.MIN, Courts.MAX}) {
            Check.refused("game " + g, () -> Courts.disputed(2), Courts.INDEX, c -> c.post(g, 0));
        }
        for (int g = 0; g <= 3; g++) {
            int number = g;
            Check.refused("without an assertion", Courts::counter, Courts.INDEX, c -> c.post(number, 0));
            Check.refused("without a game", () -> Courts.asserted(2), Courts.INDEX, c -> c.post(number, 0));
            Check.refused("after it fell", PostTest::fallen, Courts.INDEX, c -> c.post(number, 0));
        }
    }

    private static StepCourt fallen() {
        StepCourt court = Courts.disputed(2);
        court.challenge(2);
        Courts.blocks(court, 5);
        return court;
    }

    private static StepCourt lostByTheChallenger() {
        StepCourt court = Courts.posted(4);
        Courts.blocks(court, 5);
        Check.same("over", court.assertion(6), 0);
        return court;
    }

    private static void notRunning() {
        Check.refused("proven", Courts::proven, Courts.STATE, c -> c.post(0, 0));
        Check.refused("late", PostTest::lostByTheChallenger, Courts.STATE, c -> c.post(0, 0));
    }

    private static StepCourt blockLater(StepCourt court) {
        court.block();
        return court;
    }

    private static StepCourt zeroPosted() {
        StepCourt court = Courts.disputed(2);
        court.post(0, court.truth(1));
        return court;
    }

    private static void notToBeDone() {
        Check.refused("to pick", () -> blockLater(Courts.posted(4)), Courts.STATE, c -> c.post(0, 7));
        Check.refused("to pick from 0", () -> blockLater(zeroPosted()), Courts.STATE, c -> c.post(0, 7));
        Check.refused("to prove", () -> blockLater(Courts.disputed(1)), Courts.STATE, c -> c.post(0, 7));
    }
}
