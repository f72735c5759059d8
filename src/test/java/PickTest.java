/** Promise 8: pick. */
public final class PickTest {
    public static void main(String[] args) {
        Check.sentence("lower: HIGH becomes M, DISPUTED the middle", PickTest::lower);
        Check.sentence("else LOW becomes M, AGREED the middle", PickTest::upper);
        Check.sentence("there is no middle then.", PickTest::noMiddle);
        Check.sentence("Answers HIGH - LOW.", PickTest::answer);
        Check.sentence("Throws as post.", PickTest::noGame);
        Check.sentence("Throws as post.", PickTest::notRunning);
        Check.sentence("Throws as post.", PickTest::notToBeDone);
        Check.finish();
    }

    private static void lower() {
        StepCourt court = Courts.disputed(9);
        long middle = court.post(0, 6);
        court.block();
        court.pick(0, true);
        Check.game(court, 0, 1, 0, 4, court.base(), middle, 0, 5, 1);
        StepCourt two = Courts.posted(2);
        two.pick(0, true);
        Check.game(two, 0, 1, 0, 1, two.base(), two.truth(1), 0, 4, 3);
    }

    private static void upper() {
        StepCourt court = Courts.disputed(9);
        long middle = court.post(0, 6);
        court.block();
        court.pick(0, false);
        Check.game(court, 0, 1, 4, 9, middle, court.truth(9), 0, 5, 1);
        StepCourt two = Courts.posted(2);
        two.pick(0, false);
        Check.game(two, 0, 1, 1, 2, two.truth(1), two.truth(2), 0, 4, 3);
    }

    private static void noMiddle() {
        for (boolean lower : new boolean[] {true, false}) {
            StepCourt court = Courts.posted(4);
            Check.same("middle", court.game(0, 5), court.truth(2));
            court.pick(0, lower);
            Check.same("none", court.game(0, 5), 0);
            Check.fails("to pick again", Courts.STATE, () -> court.pick(0, lower));
            Check.same("another", court.post(0, 0), court.truth(lower ? 1 : 3));
        }
    }

    private static void answer() {
        for (int steps = 2; steps <= 64; steps++) {
            Check.same("lower of " + steps, Courts.posted(steps).pick(0, true), steps / 2);
            Check.same("upper of " + steps, Courts.posted(steps).pick(0, false), steps - steps / 2);
        }
        StepCourt court = Courts.posted(9);
        Check.same("4 to 9", court.pick(0, false), 5);
        court.post(0, 0);
        Check.same("6 to 9", court.pick(0, false), 3);
        court.post(0, 0);
        Check.same("6 to 7", court.pick(0, true), 1);
    }

    private static void noGame() {
        for (int g : new int[] {-1, 1, 2, 3, Courts.MIN, Courts.MAX}) {
            Check.refused("game " + g, () -> Courts.posted(2), Courts.INDEX, c -> c.pick(g, true));
        }
        for (int g = 0; g <= 3; g++) {
            int number = g;
            Check.refused("without an assertion", Courts::counter, Courts.INDEX, c -> c.pick(number, true));
            Check.refused("without a game", () -> Courts.asserted(2), Courts.INDEX, c -> c.pick(number, false));
            Check.refused("after it fell", PickTest::fallen, Courts.INDEX, c -> c.pick(number, true));
        }
    }

    /** By game 0, when game 1 had a middle. */
    private static StepCourt fallen() {
        StepCourt court = Courts.disputed(2);
        court.challenge(2);
        court.post(1, 0);
        Courts.blocks(court, 5);
        return court;
    }

    private static StepCourt lostByTheChallenger() {
        StepCourt court = Courts.posted(4);
        Courts.blocks(court, 5);
        Check.same("over", court.assertion(6), 0);
        return court;
    }

    private static void notRunning() {
        Check.refused("proven", Courts::proven, Courts.STATE, c -> c.pick(0, true));
        Check.refused("late", PickTest::lostByTheChallenger, Courts.STATE, c -> c.pick(0, true));
        Check.refused("late", PickTest::lostByTheChallenger, Courts.STATE, c -> c.pick(0, false));
    }

    private static StepCourt blockLater(StepCourt court) {
        court.block();
        return court;
    }

    private static void notToBeDone() {
        Check.refused("to post", () -> blockLater(Courts.disputed(2)), Courts.STATE, c -> c.pick(0, true));
        Check.refused("to post", () -> blockLater(Courts.disputed(64)), Courts.STATE, c -> c.pick(0, false));
        Check.refused("to prove", () -> blockLater(Courts.disputed(1)), Courts.STATE, c -> c.pick(0, false));
    }
}
