/** The Terms' words on exceptions: which one comes first where two are due. */
public final class OrderTest {
    public static void main(String[] args) {
        Check.sentence("IndexOutOfBoundsException comes first: there is no such party, game or number",
                OrderTest::indexComesFirst);
        Check.sentence("then IllegalStateException: that can't be done now", OrderTest::stateComesSecond);
        Check.sentence("then IllegalArgumentException: another argument is not as said", OrderTest::argumentComesThird);
        Check.sentence("then UnsupportedOperationException: there is not enough money or room.",
                OrderTest::roomComesLast);
        Check.sentence("A call that throws changes nothing.", OrderTest::throwingChangesNothing);
        Check.finish();
    }

    /** Payments of 300, 0, -1 and 1, a pot of 300, and a base that is no truth. */
    private static StepCourt lie() {
        StepCourt court = paying();
        court.deposit(3, 300);
        Courts.standing(court, 1, 9, 5);
        return court;
    }

    private static StepCourt paying() {
        return Courts.coded(1, 300, 13, 0, 1, 0, 13, 0, 1, -1, 13, 0, 1, 1, 13, 0);
    }

    /** Party 0 has nothing left. */
    private static StepCourt poor() {
        StepCourt court = Courts.counter();
        court.deposit(0, 1000);
        return court;
    }

    /** Party 0 has nothing left, and party 1 asserts something. */
    private static StepCourt poorAndAsserted() {
        StepCourt court = poor();
        court.claim(1, 2, 0);
        return court;
    }

    private static void indexComesFirst() {
        for (int p : Courts.NO_PARTIES) {
            Check.refused("deposit: amount", StepCourt::new, Courts.INDEX, c -> c.deposit(p, 0));
            Check.refused("deposit: balance", StepCourt::new, Courts.INDEX, c -> c.deposit(p, 1001));
            Check.refused("deposit: room", () -> Courts.withWords(60), Courts.INDEX, c -> c.deposit(p, 1));
            Check.refused("claim: state", () -> Courts.asserted(1), Courts.INDEX, c -> c.claim(p, 1, 0));
            Check.refused("claim: steps", StepCourt::new, Courts.INDEX, c -> c.claim(p, 0, 0));
            Check.refused("claim: both", () -> Courts.asserted(1), Courts.INDEX, c -> c.claim(p, 65, 0));
            Check.refused("challenge: state", StepCourt::new, Courts.INDEX, c -> c.challenge(p));
        }
        for (int g : new int[] {-1, 1, 2, 3, Courts.MIN, Courts.MAX}) {
            Check.refused("post: state", Courts::proven, Courts.INDEX, c -> c.post(g, 0));
            Check.refused("pick: state", Courts::proven, Courts.INDEX, c -> c.pick(g, true));
            Check.refused("prove: state", Courts::proven, Courts.INDEX, c -> c.prove(g, 0, 0));
            Check.refused("prove: what", () -> Courts.disputed(1), Courts.INDEX, c -> c.prove(g, 11, 0));
            Check.refused("prove: both", Courts::proven, Courts.INDEX, c -> c.prove(g, -1, 0));
        }
        for (int k : new int[] {-1, 4, 30, Courts.MIN, Courts.MAX}) {
            Check.refused("draw: state", OrderTest::lie, Courts.INDEX, c -> c.draw(k));
        }
    }

    private static void stateComesSecond() {
        for (int steps : new int[] {0, 65, Courts.MIN}) {
            Check.refused("claim: steps", () -> Courts.asserted(1), Courts.STATE, c -> c.claim(1, steps, 0));
            Check.refused("claim: both", OrderTest::poorAndAsserted, Courts.STATE, c -> c.claim(0, steps, 0));
        }
        Check.refused("claim: money", OrderTest::poorAndAsserted, Courts.STATE, c -> c.claim(0, 1, 0));
        Check.refused("challenge: money", OrderTest::poor, Courts.STATE, c -> c.challenge(0));
        Check.refused("challenge: the asserter's money", OrderTest::poorAsserter, Courts.STATE, c -> c.challenge(0));
        Check.refused("challenge: a challenger's money", OrderTest::poorChallenger, Courts.STATE, c -> c.challenge(0));
        for (int what : new int[] {-1, 11}) {
            Check.refused("prove: to post", () -> Courts.disputed(2), Courts.STATE, c -> c.prove(0, what, 0));
            Check.refused("prove: to pick", () -> Courts.posted(2), Courts.STATE, c -> c.prove(0, what, 0));
            Check.refused("prove: over", Courts::proven, Courts.STATE, c -> c.prove(0, what, 0));
        }
        Check.refused("draw: amount 0", OrderTest::lie, Courts.STATE, c -> c.draw(1));
        Check.refused("draw: amount -1", OrderTest::lie, Courts.STATE, c -> c.draw(2));
        Check.refused("draw: pot", OrderTest::lieWithoutMoney, Courts.STATE, c -> c.draw(0));
        Check.refused("draw: drawn, pot", OrderTest::drawnAndEmpty, Courts.STATE, c -> c.draw(0));
    }

    private static StepCourt poorAsserter() {
        StepCourt court = Courts.asserted(2);
        court.deposit(0, 900);
        return court;
    }

    private static StepCourt poorChallenger() {
        StepCourt court = poorAndFriendly();
        court.challenge(0);
        court.deposit(0, 1);
        return court;
    }

    /** Party 0 has 101 left, and party 1 asserts something. */
    private static StepCourt poorAndFriendly() {
        StepCourt court = Courts.counter();
        court.deposit(0, 899);
        court.claim(1, 2, 0);
        return court;
    }

    private static StepCourt lieWithoutMoney() {
        StepCourt court = paying();
        Courts.standing(court, 1, 9, 5);
        return court;
    }

    private static StepCourt drawnAndEmpty() {
        StepCourt court = paying();
        court.deposit(3, 300);
        Courts.standingTruth(court, 1, 9);
        Check.same("draw", court.draw(0), 300);
        return court;
    }

    private static void argumentComesThird() {
        for (int amount : new int[] {0, -1, Courts.MIN}) {
            Check.refused("deposit: room", () -> Courts.withWords(60), Courts.ARGUMENT, c -> c.deposit(0, amount));
            Check.refused("deposit: balance", OrderTest::poor, Courts.ARGUMENT, c -> c.deposit(0, amount));
        }
        for (int steps : new int[] {0, 65, Courts.MIN, Courts.MAX}) {
            Check.refused("claim: money", OrderTest::poor, Courts.ARGUMENT, c -> c.claim(0, steps, 0));
        }
        Check.refused("draw: amount 0, pot 0", OrderTest::drawnAndEmpty, Courts.ARGUMENT, c -> c.draw(1));
        Check.refused("draw: amount -1, pot 0", OrderTest::drawnAndEmpty, Courts.ARGUMENT, c -> c.draw(2));
    }

    private static void roomComesLast() {
        Check.refused("deposit: balance", OrderTest::poor, Courts.ROOM, c -> c.deposit(0, 1));
        Check.refused("deposit: room", () -> Courts.withWords(60), Courts.ROOM, c -> c.deposit(0, 1));
        Check.refused("send: room", () -> Courts.withWords(60), Courts.ROOM, c -> c.send(1));
        Check.refused("claim: money", OrderTest::poor, Courts.ROOM, c -> c.claim(0, 1, 0));
        Check.refused("challenge: money", OrderTest::poorAndAsserted, Courts.ROOM, c -> c.challenge(0));
        Check.refused("draw: pot", OrderTest::drawnAndEmpty, Courts.ROOM, c -> c.draw(3));
    }

    /** One call of each kind, in a court where there is much that could change. */
    private static void throwingChangesNothing() {
        Check.refused("deposit", OrderTest::busy, Courts.ROOM, c -> c.deposit(0, 1001));
        Check.refused("claim", OrderTest::busy, Courts.STATE, c -> c.claim(2, 1, 7));
        Check.refused("challenge", OrderTest::busy, Courts.STATE, c -> c.challenge(2));
        Check.refused("post to pick", OrderTest::busy, Courts.STATE, c -> c.post(0, 9));
        Check.refused("post to prove", OrderTest::busy, Courts.STATE, c -> c.post(2, 9));
        Check.refused("pick to post", OrderTest::busy, Courts.STATE, c -> c.pick(1, true));
        Check.refused("pick to prove", OrderTest::busy, Courts.STATE, c -> c.pick(2, false));
        Check.refused("prove to post", OrderTest::busy, Courts.STATE, c -> c.prove(1, 0, 0));
        Check.refused("prove to pick", OrderTest::busy, Courts.STATE, c -> c.prove(0, 0, 0));
        Check.refused("prove by nothing", OrderTest::busy, Courts.ARGUMENT, c -> c.prove(2, 11, 0));
        Check.refused("draw of 0", OrderTest::busy, Courts.ARGUMENT, c -> c.draw(1));
        Check.refused("draw of 300", OrderTest::busy, Courts.ROOM, c -> c.draw(0));
        Check.refused("draw of what is drawn", OrderTest::busy, Courts.STATE, c -> c.draw(3));
        Check.refused("send", OrderTest::busyAndFull, Courts.ROOM, c -> c.send(1));
    }

    /** Payments, one of them drawn; an assertion; games in which to pick, to post and to prove; a block since. */
    private static StepCourt busy() {
        StepCourt court = paying();
        court.deposit(3, 200);
        Courts.standingTruth(court, 1, 9);
        court.draw(3);
        court.claim(1, 2, 0);
        court.challenge(0);
        court.challenge(2);
        court.challenge(3);
        court.post(0, 0);
        court.post(2, 0);
        court.pick(2, true);
        court.block();
        return court;
    }

    private static StepCourt busyAndFull() {
        StepCourt court = busy();
        for (int i = 4; i <= 60; i++) {
            Check.same("send", court.send(i), i);
        }
        return court;
    }
}
