/** Promises 3 (deposit), 4 (send), 11 (draw), 12 (balance), 13 (pot) and 14 (word). */
public final class MoneyTest {
    public static void main(String[] args) {
        deposits();
        depositsRefused();
        depositNeedsThreeWords();
        sends();
        balancesOfNobody();
        draws();
        drawRefused();
        drawNeedsTheTrueBase();
        drawNeedsThePot();
        drawWhileThereIsAnAssertion();
        Check.finish();
    }

    private static void deposits() {
        StepCourt court = new StepCourt();
        Check.same("first", court.deposit(3, 1), 3);
        Check.same("second", court.deposit(0, 1000), 6);
        Check.same("pot", court.pot(), 1001);
        Check.same("balance 3", court.balance(3), 999);
        Check.same("balance 0", court.balance(0), 0);
        Check.same("balance 1", court.balance(1), 1000);
        int[] due = {1, 3, 1, 1, 0, 1000, 0};
        for (int k = 0; k < due.length; k++) {
            Check.same("word " + k, court.word(k), due[k]);
        }
    }

    private static void depositsRefused() {
        StepCourt court = new StepCourt();
        Check.failsIdly("party -1", court, Courts.INDEX, () -> court.deposit(-1, 1));
        Check.failsIdly("party 4", court, Courts.INDEX, () -> court.deposit(4, 0));
        Check.failsIdly("amount 0", court, Courts.ARGUMENT, () -> court.deposit(0, 0));
        Check.failsIdly("amount least", court, Courts.ARGUMENT, () -> court.deposit(0, Integer.MIN_VALUE));
        Check.failsIdly("amount 1001", court, Courts.ROOM, () -> court.deposit(0, 1001));
        Check.failsIdly("amount most", court, Courts.ROOM, () -> court.deposit(0, Integer.MAX_VALUE));
        court.claim(0, 1, 0);
        Check.failsIdly("after a stake", court, Courts.ROOM, () -> court.deposit(0, 901));
        Check.same("what is left", court.deposit(0, 900), 3);
    }

    private static void depositNeedsThreeWords() {
        StepCourt court = new StepCourt();
        for (int i = 1; i <= 57; i++) {
            Check.same("send " + i, court.send(i), i);
        }
        Check.same("the last three", court.deposit(2, 5), 60);
        Check.same("word 57", court.word(57), 1);
        Check.same("word 58", court.word(58), 2);
        Check.same("word 59", court.word(59), 5);
        Check.failsIdly("none left", court, Courts.ROOM, () -> court.deposit(2, 5));
        Check.failsIdly("amount first", court, Courts.ARGUMENT, () -> court.deposit(2, 0));
        StepCourt two = new StepCourt();
        for (int i = 1; i <= 58; i++) {
            two.send(i);
        }
        Check.failsIdly("two left", two, Courts.ROOM, () -> two.deposit(2, 5));
    }

    private static void sends() {
        StepCourt court = new StepCourt();
        for (int i = 1; i <= 60; i++) {
            Check.same("send " + i, court.send(-i), i);
        }
        Check.failsIdly("full", court, Courts.ROOM, () -> court.send(1));
        for (int i = 1; i <= 60; i++) {
            Check.same("word " + (i - 1), court.word(i - 1), -i);
        }
        Check.same("word -1", court.word(-1), 0);
        Check.same("word 60", court.word(60), 0);
        Check.same("word least", court.word(Integer.MIN_VALUE), 0);
        Check.same("word most", court.word(Integer.MAX_VALUE), 0);
    }

    private static void balancesOfNobody() {
        StepCourt court = new StepCourt();
        Check.same("-1", court.balance(-1), -1);
        Check.same("4", court.balance(4), -1);
        Check.same("least", court.balance(Integer.MIN_VALUE), -1);
        Check.same("most", court.balance(Integer.MAX_VALUE), -1);
    }

    /** Pays 300 to party 3, 1 to party 2 and 0 to party 2, then -1 to party 2. */
    private static StepCourt payer() {
        return Courts.coded(1, 300, 2, 7, 13, 0, 1, 1, 2, -2, 13, 0, 1, 0, 13, 0, 1, -1, 13, 0);
    }

    private static void draws() {
        StepCourt court = payer();
        court.deposit(0, 301);
        Courts.standingTruth(court, 1, 10);
        Check.same("payment 1", court.draw(1), 1);
        Check.same("pot", court.pot(), 300);
        Check.same("balance 2", court.balance(2), 1001);
        Check.failsIdly("again", court, Courts.STATE, () -> court.draw(1));
        Check.same("payment 0", court.draw(0), 300);
        Check.same("pot then", court.pot(), 0);
        Check.same("balance 3", court.balance(3), 1300);
        Check.same("balance 0", court.balance(0), 699);
        Check.same("balance 1", court.balance(1), 1000);
        Check.failsIdly("0 again", court, Courts.STATE, () -> court.draw(0));
    }

    private static void drawRefused() {
        StepCourt court = payer();
        court.deposit(0, 500);
        Check.failsIdly("nothing paid yet", court, Courts.INDEX, () -> court.draw(0));
        court.claim(1, 10, 0);
        Check.failsIdly("nothing stands yet", court, Courts.INDEX, () -> court.draw(0));
        Courts.blocks(court, 12);
        Check.failsIdly("-1", court, Courts.INDEX, () -> court.draw(-1));
        Check.failsIdly("4", court, Courts.INDEX, () -> court.draw(4));
        Check.failsIdly("least", court, Courts.INDEX, () -> court.draw(Integer.MIN_VALUE));
        Check.failsIdly("amount 0", court, Courts.ARGUMENT, () -> court.draw(2));
        Check.failsIdly("amount -1", court, Courts.ARGUMENT, () -> court.draw(3));
    }

    private static void drawNeedsTheTrueBase() {
        StepCourt court = payer();
        court.deposit(0, 500);
        Courts.standing(court, 1, 10, court.truth(10) ^ 1);
        Check.failsIdly("a lie stands", court, Courts.STATE, () -> court.draw(0));
        Check.failsIdly("before the amount", court, Courts.STATE, () -> court.draw(2));
        Check.failsIdly("behind the number", court, Courts.INDEX, () -> court.draw(4));
        Courts.standingTruth(court, 1, 1);
        Check.same("the truth stands again", court.draw(0), 300);
    }

    private static void drawNeedsThePot() {
        StepCourt court = payer();
        court.deposit(0, 299);
        Courts.standingTruth(court, 1, 10);
        Check.failsIdly("one too few", court, Courts.ROOM, () -> court.draw(0));
        court.deposit(2, 1);
        Check.same("enough", court.draw(0), 300);
        Check.failsIdly("pot empty", court, Courts.ROOM, () -> court.draw(1));
        Check.failsIdly("amount before pot", court, Courts.ARGUMENT, () -> court.draw(2));
    }

    private static void drawWhileThereIsAnAssertion() {
        StepCourt court = payer();
        court.deposit(0, 400);
        Courts.standingTruth(court, 1, 3);
        court.claim(1, 3, 5);
        Check.same("draw", court.draw(0), 300);
        Check.failsIdly("the next isn't there yet", court, Courts.INDEX, () -> court.draw(1));
    }
}
