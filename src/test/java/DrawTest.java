/** Promise 11: draw. */
public final class DrawTest {
    public static void main(String[] args) {
        Check.sentence("Payment k, from 0, of the true state is drawn", DrawTest::drawn);
        Check.sentence("its party gets the amount out of the pot", DrawTest::money);
        Check.sentence("answers the amount.", DrawTest::answers);
        Check.sentence("IndexOutOfBoundsException (there is no payment k)", DrawTest::noPayment);
        Check.sentence("IllegalStateException (it was drawn already", DrawTest::drawnAlready);
        Check.sentence("or the base isn't the commitment of the true state)", DrawTest::baseIsNoTruth);
        Check.sentence("IllegalArgumentException (its amount is below 1)", DrawTest::amountBelowOne);
        Check.sentence("UnsupportedOperationException (the pot has less).", DrawTest::potHasLess);
        Check.finish();
    }

    /** Pays 300 to party 3 by three steps, 1 to party 2 by three more, and so on. */
    private static StepCourt payer() {
        return Courts.coded(1, 300, 2, 7, 13, 0, 1, 1, 2, -2, 13, 0);
    }

    /** Both payments are there, and that much is in the pot. */
    private static StepCourt paid(int pot) {
        StepCourt court = payer();
        court.deposit(0, pot);
        Courts.standingTruth(court, 1, 6);
        return court;
    }

    private static void drawn() {
        StepCourt court = paid(301);
        Check.same("payment 1 first", court.draw(1), 1);
        Check.same("payment 0", court.draw(0), 300);
        StepCourt partly = payer();
        partly.deposit(0, 400);
        Courts.standingTruth(partly, 1, 3);
        partly.claim(1, 3, 5);
        Check.same("while there is an assertion", partly.draw(0), 300);
        Check.fails("what it asserts isn't there yet", Courts.INDEX, () -> partly.draw(1));
        Courts.blocks(partly, 12);
        Courts.standingTruth(partly, 1, 1);
        Check.same("later", partly.draw(1), 1);
    }

    private static void money() {
        StepCourt court = paid(400);
        Check.balances(court, 600, 1000, 1000, 1000);
        court.draw(0);
        Check.balances(court, 600, 1000, 1000, 1300);
        Check.same("pot", court.pot(), 100);
        court.draw(1);
        Check.balances(court, 600, 1000, 1001, 1300);
        Check.same("pot then", court.pot(), 99);
    }

    private static void answers() {
        for (int amount : new int[] {1, 2, 999, 1000}) {
            StepCourt court = Courts.coded(1, amount, 13, 0);
            court.deposit(3, 1000);
            Courts.standingTruth(court, 1, 2);
            Check.same("draw", court.draw(0), amount);
        }
    }

    private static StepCourt notStanding() {
        StepCourt court = payer();
        court.deposit(0, 400);
        court.claim(1, 6, 0);
        return court;
    }

    private static void noPayment() {
        Check.refused("none at first", Courts::counter, Courts.INDEX, c -> c.draw(0));
        Check.refused("none that stands", DrawTest::notStanding, Courts.INDEX, c -> c.draw(0));
        for (int k : new int[] {-1, 2, 29, 30, 31, Courts.MIN, Courts.MAX}) {
            Check.refused("payment " + k, () -> paid(301), Courts.INDEX, c -> c.draw(k));
        }
        StepCourt all = Courts.coded(1, 1, 13, 0, 10, 1);
        all.deposit(0, 100);
        Courts.standingTruth(all, 1, 63);
        Check.same("payments", all.state(4), 30);
        Check.same("the last", all.draw(29), 1);
        Check.fails("one behind it", Courts.INDEX, () -> all.draw(30));
    }

    private static StepCourt drawnOnce(int k) {
        StepCourt court = paid(1000);
        court.draw(k);
        return court;
    }

    private static void drawnAlready() {
        Check.refused("payment 0", () -> drawnOnce(0), Courts.STATE, c -> c.draw(0));
        Check.refused("payment 1", () -> drawnOnce(1), Courts.STATE, c -> c.draw(1));
        Check.same("the other one", drawnOnce(0).draw(1), 1);
        Check.same("the other one", drawnOnce(1).draw(0), 300);
        StepCourt court = paid(301);
        court.draw(0);
        Courts.standingTruth(court, 2, 5);
        Check.fails("after another assertion stood", Courts.STATE, () -> court.draw(0));
        StepCourt refused = paid(299);
        Check.fails("refused", Courts.ROOM, () -> refused.draw(0));
        refused.deposit(2, 1);
        Check.same("was not drawn by that", refused.draw(0), 300);
    }

    private static StepCourt lie() {
        StepCourt court = payer();
        court.deposit(0, 500);
        Courts.standing(court, 1, 6, court.truth(6) ^ Long.MIN_VALUE);
        return court;
    }

    private static StepCourt trueThenLie() {
        StepCourt court = paid(500);
        Courts.standing(court, 1, 1, 0);
        return court;
    }

    private static void baseIsNoTruth() {
        Check.refused("a lie stood", DrawTest::lie, Courts.STATE, c -> c.draw(0));
        Check.refused("a lie stood later", DrawTest::trueThenLie, Courts.STATE, c -> c.draw(1));
        StepCourt court = trueThenLie();
        Check.fails("not now", Courts.STATE, () -> court.draw(0));
        Courts.standingTruth(court, 1, 1);
        Check.same("the truth stands again", court.draw(0), 300);
        StepCourt claimed = paid(500);
        claimed.claim(2, 1, 9);
        Check.same("a lie that doesn't stand yet", claimed.draw(0), 300);
        Courts.blocks(claimed, 12);
        Check.fails("and then does", Courts.STATE, () -> claimed.draw(1));
        StepCourt fallen = paid(500);
        fallen.claim(2, 1, 9);
        fallen.challenge(0);
        Courts.blocks(fallen, 5);
        Check.same("a lie that fell", fallen.draw(0), 300);
    }

    private static StepCourt paysOnly(int amount) {
        StepCourt court = Courts.coded(1, amount, 13, 0);
        court.deposit(0, 500);
        Courts.standingTruth(court, 1, 2);
        Check.same("payments", court.state(4), 1);
        return court;
    }

    private static void amountBelowOne() {
        for (int amount : new int[] {0, -1, -500, Courts.MIN}) {
            Check.refused("amount " + amount, () -> paysOnly(amount), Courts.ARGUMENT, c -> c.draw(0));
        }
        Check.same("amount 1", paysOnly(1).draw(0), 1);
    }

    private static void potHasLess() {
        Check.refused("1 too few", () -> paid(299), Courts.ROOM, c -> c.draw(0));
        Check.refused("far too few", () -> paysOnly(Courts.MAX), Courts.ROOM, c -> c.draw(0));
        Check.refused("by 1", () -> paysOnly(501), Courts.ROOM, c -> c.draw(0));
        Check.same("all of it", paysOnly(500).draw(0), 500);
        StepCourt court = paid(300);
        Check.same("all of it", court.draw(0), 300);
        Check.same("pot", court.pot(), 0);
        Check.fails("nothing left", Courts.ROOM, () -> court.draw(1));
        court.deposit(3, 1);
        Check.same("after a deposit", court.draw(1), 1);
        StepCourt staked = paid(299);
        staked.claim(2, 1, 0);
        Check.fails("a stake is not in the pot", Courts.ROOM, () -> staked.draw(0));
    }
}
