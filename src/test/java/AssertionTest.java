/** Promises 5 (claim), 10 (block), 16 (base) and 18 (assertion), and when an assertion stands. */
public final class AssertionTest {
    public static void main(String[] args) {
        claims();
        claimRefused();
        orderOfExceptions();
        standsAfterTwelveBlocks();
        aRunningGameHoldsItBack();
        standsWhenTheLastGameIsProven();
        standsWhenTheLastGameIsLate();
        aLieStands();
        limitIsKept();
        asksForOthers();
        blocksCount();
        Check.finish();
    }

    private static void asked(StepCourt court, long... due) {
        for (int what = 0; what < due.length; what++) {
            Check.same("assertion " + what, court.assertion(what), due[what]);
        }
    }

    private static void claims() {
        StepCourt court = Courts.coded(1, 5, 4, 0);
        court.send(1);
        court.send(1);
        Courts.blocks(court, 3);
        long due = new View().pc(2).a(5).commitment();
        Check.same("claim", court.claim(2, 2, 0), due);
        asked(court, 2, 2, 2, 3, due, 0, 0);
        Check.same("balance", court.balance(2), 900);
        Check.same("base stays", court.base(), new View().commitment());
        StepCourt lie = new StepCourt();
        Check.same("lie", lie.claim(0, 64, -1L), ~lie.base());
        asked(lie, 0, 64, 0, 0, ~lie.base(), 0, 0);
    }

    private static void claimRefused() {
        StepCourt court = new StepCourt();
        Check.failsIdly("party -1", court, Courts.INDEX, () -> court.claim(-1, 1, 0));
        Check.failsIdly("party 4", court, Courts.INDEX, () -> court.claim(4, 1, 0));
        Check.failsIdly("steps 0", court, Courts.ARGUMENT, () -> court.claim(0, 0, 0));
        Check.failsIdly("steps -1", court, Courts.ARGUMENT, () -> court.claim(0, -1, 0));
        Check.failsIdly("steps 65", court, Courts.ARGUMENT, () -> court.claim(0, 65, 0));
        court.deposit(0, 901);
        Check.failsIdly("poor", court, Courts.ROOM, () -> court.claim(0, 1, 0));
        court.deposit(1, 900);
        court.claim(1, 1, 0);
        Check.same("its last 100", court.balance(1), 0);
        Check.failsIdly("a second", court, Courts.STATE, () -> court.claim(2, 1, 0));
    }

    private static void orderOfExceptions() {
        StepCourt court = new StepCourt();
        court.deposit(0, 1000);
        Check.fails("steps before money", Courts.ARGUMENT, () -> court.claim(0, 0, 0));
        Check.fails("party before steps", Courts.INDEX, () -> court.claim(4, 0, 0));
        court.claim(1, 1, 0);
        Check.fails("state before steps", Courts.STATE, () -> court.claim(0, 0, 0));
        Check.fails("party before state", Courts.INDEX, () -> court.claim(-1, 0, 0));
    }

    private static void standsAfterTwelveBlocks() {
        StepCourt court = Courts.coded(1, 5);
        Courts.blocks(court, 2);
        long claim = court.claim(2, 1, 0);
        Courts.blocks(court, 11);
        Check.same("not yet", court.assertion(0), 2);
        Check.same("the state not yet", court.state(1), 0);
        Check.same("block", court.block(), 14);
        Check.same("stands", court.assertion(0), -1);
        Check.same("balance", court.balance(2), 1000);
        Check.same("base", court.base(), claim);
        Check.same("pc", court.state(0), 1);
        Check.same("a", court.state(1), 5);
        Courts.blocks(court, 12);
        Check.same("only once", court.balance(2), 1000);
        Check.same("pc stays", court.state(0), 1);
    }

    private static void aRunningGameHoldsItBack() {
        StepCourt court = new StepCourt();
        court.claim(0, 64, 0);
        court.challenge(1);
        for (int i = 0; i < 4; i++) {
            Courts.blocks(court, 4);
            if (court.game(0, 7) == 1) {
                court.post(0, 0);
            } else {
                court.pick(0, true);
            }
        }
        Check.same("it is open", court.assertion(0), 0);
        Check.same("and may be challenged", court.challenge(2), 1);
        asked(court, 0, 64, 0, 0, court.base(), 2, 2);
        Check.same("block", court.block(), 17);
        Check.same("still open", court.assertion(6), 2);
    }

    private static void standsWhenTheLastGameIsProven() {
        StepCourt court = Courts.coded(1, 5);
        court.claim(0, 1, 0);
        court.challenge(1);
        court.challenge(2);
        for (int i = 0; i < 3; i++) {
            Courts.blocks(court, 4);
            Check.no("a bad proof", court.prove(0, 1, 1));
            Check.no("another", court.prove(1, 1, 1));
        }
        Check.same("open at block 12", court.assertion(6), 2);
        Check.yes("proof", court.prove(1, 0, 0));
        Check.same("one runs", court.assertion(6), 1);
        Check.same("two there", court.assertion(5), 2);
        Check.same("balance", court.balance(0), 1000);
        Check.yes("last proof", court.prove(0, 0, 0));
        Check.same("stands at once", court.assertion(0), -1);
        Check.same("no games", court.game(0, 0), -1);
        Check.same("state", court.state(1), 5);
        Check.same("all money", court.balance(0), 1200);
        Check.same("challenger", court.balance(1), 900);
        Check.fails("no game to post in", Courts.INDEX, () -> court.post(0, 0));
    }

    private static void standsWhenTheLastGameIsLate() {
        StepCourt court = Courts.coded(1, 5);
        court.claim(0, 2, 0);
        Courts.blocks(court, 9);
        court.challenge(1);
        court.post(0, 0);
        Courts.blocks(court, 4);
        Check.same("open at block 13", court.assertion(6), 1);
        Check.same("block", court.block(), 14);
        Check.same("stands", court.assertion(0), -1);
        Check.same("asserter", court.balance(0), 1100);
        Check.same("challenger", court.balance(1), 900);
        Check.same("state", court.state(0), 1);
    }

    private static void aLieStands() {
        StepCourt court = Courts.coded(1, 5);
        court.claim(0, 1, 77);
        Courts.blocks(court, 12);
        long truth = new View().pc(1).a(5).commitment();
        Check.same("base", court.base(), truth ^ 77);
        Check.same("truth", court.truth(0), truth);
        Check.same("state", court.state(1), 5);
        court.claim(0, 1, 0);
        court.challenge(1);
        Check.same("agreed is the base", court.game(0, 3), truth ^ 77);
        Check.no("which has no proof", court.prove(0, 0, 0));
    }

    private static void limitIsKept() {
        StepCourt court = Courts.coded(9, 0, 9, 0);
        court.send(7);
        court.claim(0, 64, 0);
        court.send(8);
        Check.same("limit", court.assertion(2), 1);
        Courts.blocks(court, 12);
        Check.same("read", court.state(3), 1);
        Check.same("a", court.state(1), 7);
        Check.same("base", court.base(), court.truth(0));
        court.claim(0, 1, 0);
        Check.same("limit then", court.assertion(2), 2);
        Courts.blocks(court, 12);
        Check.same("a then", court.state(1), 8);
    }

    private static void asksForOthers() {
        StepCourt court = new StepCourt();
        court.claim(0, 1, 0);
        Check.same("-1", court.assertion(-1), -1);
        Check.same("7", court.assertion(7), -1);
        Check.same("least", court.assertion(Integer.MIN_VALUE), -1);
        Check.same("most", court.assertion(Integer.MAX_VALUE), -1);
    }

    private static void blocksCount() {
        StepCourt court = new StepCourt();
        for (int i = 1; i <= 100; i++) {
            Check.same("block", court.block(), i);
        }
    }
}
