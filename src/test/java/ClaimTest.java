/** Promise 5: claim. */
public final class ClaimTest {
    public static void main(String[] args) {
        Check.sentence("the true commitment S ^ x (x 0: the truth)", ClaimTest::commitment);
        Check.sentence("for S from 1 to 64", ClaimTest::steps);
        Check.sentence("and puts down 100.", ClaimTest::stake);
        Check.sentence("Answers the claim.", ClaimTest::answer);
        Check.sentence("IndexOutOfBoundsException (p)", ClaimTest::parties);
        Check.sentence("IllegalStateException (there is an assertion)", ClaimTest::oneAtATime);
        Check.sentence("IllegalArgumentException (S)", ClaimTest::wrongSteps);
        Check.sentence("UnsupportedOperationException (its balance is below 100).", ClaimTest::money);
        Check.finish();
    }

    private static void commitment() {
        StepCourt court = Courts.coded(1, 5, 9, 0);
        court.send(8);
        long due = new View().pc(2).a(8).read(1).commitment();
        for (long x : new long[] {0, 1, -1L, Long.MIN_VALUE, Long.MAX_VALUE, due}) {
            StepCourt each = Courts.coded(1, 5, 9, 0);
            each.send(8);
            Check.same("x " + x, each.claim(2, 2, x), due ^ x);
            Check.same("claim", each.assertion(4), due ^ x);
        }
        Courts.standing(court, 0, 1, 99);
        Check.same("from the true state, not from the base", court.claim(0, 1, 0), due);
    }

    private static void steps() {
        for (int steps : new int[] {1, 2, 63, 64}) {
            StepCourt court = Courts.counter();
            long due = court.truth(steps);
            Check.same("S " + steps, court.claim(0, steps, 0), due);
            Check.same("steps", court.assertion(1), steps);
        }
    }

    private static void stake() {
        for (int p = 0; p <= 3; p++) {
            StepCourt court = new StepCourt();
            court.claim(p, 1, 0);
            for (int other = 0; other <= 3; other++) {
                Check.same("balance " + other, court.balance(other), other == p ? 900 : 1000);
            }
            Check.same("pot", court.pot(), 0);
        }
    }

    private static void answer() {
        StepCourt court = Courts.counter();
        Courts.blocks(court, 3);
        court.send(1);
        court.send(1);
        long claim = court.claim(2, 5, 6);
        Check.assertion(court, 2, 5, 2, 3, claim, 0, 0);
        Check.same("the base stays", court.base(), new View().commitment());
        Check.same("the true state stays", court.state(0), 0);
    }

    private static void parties() {
        for (int p : Courts.NO_PARTIES) {
            Check.refused("party " + p, Courts::counter, Courts.INDEX, c -> c.claim(p, 1, 0));
        }
    }

    /** A word and a block have come since. */
    private static StepCourt assertedBefore() {
        StepCourt court = Courts.asserted(2);
        court.send(5);
        court.block();
        return court;
    }

    private static void oneAtATime() {
        for (int p = 0; p <= 3; p++) {
            int party = p;
            Check.refused("party " + p, ClaimTest::assertedBefore, Courts.STATE, c -> c.claim(party, 1, 0));
            Check.refused("with a game", () -> Courts.disputed(2), Courts.STATE, c -> c.claim(party, 1, 0));
            Check.refused("with a game that is over", Courts::proven, Courts.STATE, c -> c.claim(party, 1, 0));
        }
        StepCourt court = Courts.asserted(2);
        Courts.blocks(court, 11);
        Check.fails("in block 11", Courts.STATE, () -> court.claim(1, 1, 0));
        court.block();
        Check.same("after it stood", court.claim(1, 1, 0), court.truth(1));
        court.challenge(2);
        Courts.blocks(court, 5);
        Check.same("after it fell", court.claim(3, 1, 0), court.truth(1));
    }

    private static void wrongSteps() {
        for (int steps : new int[] {0, -1, 65, 66, 128, Courts.MIN, Courts.MAX}) {
            Check.refused("S " + steps, Courts::counter, Courts.ARGUMENT, c -> c.claim(0, steps, 0));
        }
    }

    private static StepCourt left(int amount) {
        StepCourt court = Courts.counter();
        court.deposit(0, 1000 - amount);
        return court;
    }

    private static void money() {
        Check.refused("99 left", () -> left(99), Courts.ROOM, c -> c.claim(0, 1, 0));
        Check.refused("nothing left", () -> left(0), Courts.ROOM, c -> c.claim(0, 1, 0));
        StepCourt court = left(100);
        Check.same("100 left", court.claim(0, 1, 0), court.truth(1));
        Check.same("nothing then", court.balance(0), 0);
        Check.same("another party", left(99).claim(1, 1, 0), court.truth(1));
    }
}
