/** Promise 6: challenge. */
public final class ChallengeTest {
    public static void main(String[] args) {
        Check.sentence("Party p begins a game", ChallengeTest::begins);
        Check.sentence("and puts down 100: the game's number.", ChallengeTest::stake);
        Check.sentence("IndexOutOfBoundsException (p)", ChallengeTest::parties);
        Check.sentence("there is no assertion", ChallengeTest::withoutAnAssertion);
        Check.sentence("p is its asserter", ChallengeTest::asserter);
        Check.sentence("or has begun a game against it", ChallengeTest::twice);
        Check.sentence("also one that is over", ChallengeTest::afterOneThatIsOver);
        Check.sentence("UnsupportedOperationException (its balance is below 100).", ChallengeTest::money);
        Check.finish();
    }

    private static void begins() {
        StepCourt court = Courts.counter();
        Courts.blocks(court, 2);
        long claim = court.claim(1, 9, 3);
        Courts.blocks(court, 3);
        Check.same("number", court.challenge(3), 0);
        Check.game(court, 0, 3, 0, 9, court.base(), claim, 0, 9, 1);
        Check.assertion(court, 1, 9, 0, 2, claim, 1, 1);
        Check.same("also when the claim is true", Courts.asserted(1).challenge(1), 0);
        StepCourt last = Courts.asserted(1);
        Courts.blocks(last, 11);
        Check.same("in block 11", last.challenge(1), 0);
    }

    private static void stake() {
        StepCourt court = Courts.asserted(2);
        Check.same("first", court.challenge(3), 0);
        Check.balances(court, 900, 1000, 1000, 900);
        Check.same("second", court.challenge(1), 1);
        Check.balances(court, 900, 900, 1000, 900);
        Check.same("third", court.challenge(2), 2);
        Check.balances(court, 900, 900, 900, 900);
        Check.same("pot", court.pot(), 0);
        Check.same("games", court.assertion(5), 3);
        Check.same("running", court.assertion(6), 3);
    }

    private static void parties() {
        for (int p : Courts.NO_PARTIES) {
            Check.refused("party " + p, () -> Courts.asserted(2), Courts.INDEX, c -> c.challenge(p));
        }
    }

    private static StepCourt fallen() {
        StepCourt court = Courts.disputed(2);
        Courts.blocks(court, 5);
        return court;
    }

    private static StepCourt stood() {
        StepCourt court = Courts.asserted(2);
        Courts.blocks(court, 12);
        return court;
    }

    private static void withoutAnAssertion() {
        for (int p = 0; p <= 3; p++) {
            int party = p;
            Check.refused("before any", Courts::counter, Courts.STATE, c -> c.challenge(party));
            Check.refused("after it fell", ChallengeTest::fallen, Courts.STATE, c -> c.challenge(party));
            Check.refused("after it stood", ChallengeTest::stood, Courts.STATE, c -> c.challenge(party));
        }
    }

    private static void asserter() {
        for (int p = 0; p <= 3; p++) {
            StepCourt court = Courts.counter();
            int party = p;
            court.claim(p, 2, 0);
            Check.fails("asserter " + p, Courts.STATE, () -> court.challenge(party));
            Check.same("another", court.challenge((p + 1) % 4), 0);
        }
        Check.refused("asserter", () -> Courts.asserted(2), Courts.STATE, c -> c.challenge(0));
        Check.refused("in a game", () -> Courts.disputed(2), Courts.STATE, c -> c.challenge(0));
        StepCourt court = fallen();
        court.claim(1, 2, 0);
        Check.same("of another assertion", court.challenge(0), 0);
    }

    private static StepCourt twoGames() {
        StepCourt court = Courts.disputed(2);
        court.challenge(2);
        return court;
    }

    private static StepCourt threeGames() {
        StepCourt court = twoGames();
        court.challenge(3);
        return court;
    }

    private static void twice() {
        Check.refused("the only one", () -> Courts.disputed(2), Courts.STATE, c -> c.challenge(1));
        for (int p = 1; p <= 2; p++) {
            int party = p;
            Check.refused("challenger " + p + " of two", ChallengeTest::twoGames, Courts.STATE, c -> c.challenge(party));
        }
        for (int p = 1; p <= 3; p++) {
            int party = p;
            Check.refused("challenger " + p, ChallengeTest::threeGames, Courts.STATE, c -> c.challenge(party));
        }
        StepCourt court = fallen();
        court.claim(0, 2, 0);
        Check.same("against another assertion", court.challenge(1), 0);
    }

    private static StepCourt lostByTheChallenger() {
        StepCourt court = Courts.posted(2);
        Courts.blocks(court, 5);
        return court;
    }

    private static void afterOneThatIsOver() {
        Check.refused("proven", Courts::proven, Courts.STATE, c -> c.challenge(1));
        Check.refused("late", ChallengeTest::lostByTheChallenger, Courts.STATE, c -> c.challenge(1));
        Check.same("another party", lostByTheChallenger().challenge(2), 1);
    }

    private static StepCourt left(int amount) {
        StepCourt court = Courts.asserted(2);
        court.deposit(2, 1000 - amount);
        return court;
    }

    private static void money() {
        Check.refused("99 left", () -> left(99), Courts.ROOM, c -> c.challenge(2));
        Check.refused("nothing left", () -> left(0), Courts.ROOM, c -> c.challenge(2));
        StepCourt court = left(100);
        Check.same("100 left", court.challenge(2), 0);
        Check.same("nothing then", court.balance(2), 0);
        Check.same("another party", left(99).challenge(1), 0);
    }
}
