/** Promise 3: deposit. */
public final class DepositTest {
    public static void main(String[] args) {
        Check.sentence("Party p gives an amount, 1 or more, from its balance into the pot", DepositTest::gives);
        Check.sentence("the words 1, p and the amount come into the inbox.", DepositTest::words);
        Check.sentence("Answers how many words are in it.", DepositTest::answers);
        Check.sentence("IndexOutOfBoundsException, IllegalArgumentException (the amount)", DepositTest::parties);
        Check.sentence("IllegalArgumentException (the amount)", DepositTest::amounts);
        Check.sentence("UnsupportedOperationException (its balance is less", DepositTest::balanceIsLess);
        Check.sentence("or there is room for less than three words).", DepositTest::room);
        Check.finish();
    }

    private static void gives() {
        StepCourt court = new StepCourt();
        court.deposit(3, 1);
        Check.balances(court, 1000, 1000, 1000, 999);
        Check.same("pot", court.pot(), 1);
        court.deposit(0, 1000);
        Check.balances(court, 0, 1000, 1000, 999);
        Check.same("pot then", court.pot(), 1001);
        court.deposit(3, 999);
        court.deposit(1, 1000);
        court.deposit(2, 1000);
        Check.balances(court, 0, 0, 0, 0);
        Check.same("all there is", court.pot(), 4000);
        StepCourt asserted = Courts.disputed(2);
        Check.same("while there is a game", asserted.deposit(1, 2), 3);
        Check.balances(asserted, 900, 898, 1000, 1000);
    }

    private static void words() {
        StepCourt court = new StepCourt();
        court.send(9);
        court.deposit(3, 1);
        court.deposit(0, 1000);
        int[] due = {9, 1, 3, 1, 1, 0, 1000, 0};
        for (int k = 0; k < due.length; k++) {
            Check.same("word " + k, court.word(k), due[k]);
        }
    }

    private static void answers() {
        StepCourt court = new StepCourt();
        Check.same("first", court.deposit(3, 7), 3);
        Check.same("second", court.deposit(2, 8), 6);
        court.send(1);
        Check.same("after a word", court.deposit(1, 9), 10);
    }

    private static void parties() {
        for (int p : Courts.NO_PARTIES) {
            Check.refused("party " + p, StepCourt::new, Courts.INDEX, c -> c.deposit(p, 1));
        }
        for (int p = 0; p <= 3; p++) {
            Check.same("party " + p, new StepCourt().deposit(p, 1), 3);
        }
    }

    private static void amounts() {
        for (int amount : new int[] {0, -1, -1000, Courts.MIN}) {
            Check.refused("amount " + amount, StepCourt::new, Courts.ARGUMENT, c -> c.deposit(0, amount));
        }
        Check.same("amount 1", new StepCourt().deposit(0, 1), 3);
    }

    private static StepCourt withStake() {
        return Courts.asserted(1);
    }

    private static void balanceIsLess() {
        Check.refused("amount 1001", StepCourt::new, Courts.ROOM, c -> c.deposit(0, 1001));
        Check.refused("amount most", StepCourt::new, Courts.ROOM, c -> c.deposit(0, Courts.MAX));
        Check.same("amount 1000", new StepCourt().deposit(0, 1000), 3);
        Check.refused("901 after a stake", DepositTest::withStake, Courts.ROOM, c -> c.deposit(0, 901));
        Check.same("900 after a stake", withStake().deposit(0, 900), 3);
        StepCourt court = new StepCourt();
        court.deposit(2, 1000);
        Check.fails("nothing left", Courts.ROOM, () -> court.deposit(2, 1));
        Check.same("of another", court.deposit(1, 1), 6);
    }

    private static void room() {
        for (int n = 58; n <= 60; n++) {
            int words = n;
            Check.refused(n + " words", () -> Courts.withWords(words), Courts.ROOM, c -> c.deposit(2, 5));
        }
        StepCourt court = Courts.withWords(57);
        Check.same("57 words", court.deposit(2, 5), 60);
        Check.same("word 57", court.word(57), 1);
        Check.same("word 58", court.word(58), 2);
        Check.same("word 59", court.word(59), 5);
        Check.same("pot", court.pot(), 5);
    }
}
