/** Promises 6 (challenge), 7 (post), 8 (pick), 10 (block) and 19 (game). */
public final class GameTest {
    public static void main(String[] args) {
        begins();
        challengeRefused();
        halving();
        middleMayBeZero();
        movesOutOfTurn();
        movesInNoGame();
        deadlines();
        challengerIsLate();
        asserterIsLateToPost();
        asserterIsLateToProve();
        othersGetTheirsBack();
        gameByGame();
        gamesEndWithTheAssertion();
        Check.finish();
    }

    private static void asked(StepCourt court, int g, long... due) {
        for (int what = 0; what < due.length; what++) {
            Check.same("game " + g + " what " + what, court.game(g, what), due[what]);
        }
    }

    /** Counts a up by 1 with each second step. */
    private static StepCourt counter() {
        return Courts.coded(2, 1, 4, 0, 10, 1);
    }

    private static void begins() {
        StepCourt court = counter();
        Courts.blocks(court, 2);
        long claim = court.claim(1, 9, 3);
        Courts.blocks(court, 3);
        Check.same("first", court.challenge(3), 0);
        asked(court, 0, 3, 0, 9, court.base(), claim, 0, 9, 1);
        Check.same("balance", court.balance(3), 900);
        court.block();
        Check.same("second", court.challenge(0), 1);
        Check.same("third", court.challenge(2), 2);
        asked(court, 2, 2, 0, 9, court.base(), claim, 0, 10, 1);
        Check.same("games", court.assertion(5), 3);
        Check.same("running", court.assertion(6), 3);
        Check.same("what -1", court.game(0, -1), -1);
        Check.same("what 8", court.game(0, 8), -1);
        Check.same("g -1", court.game(-1, 0), -1);
        Check.same("g 3", court.game(3, 0), -1);
        Check.same("g most", court.game(Integer.MAX_VALUE, 0), -1);
    }

    private static void challengeRefused() {
        StepCourt court = counter();
        Check.failsIdly("no assertion", court, Courts.STATE, () -> court.challenge(0));
        Check.failsIdly("party first", court, Courts.INDEX, () -> court.challenge(4));
        court.claim(1, 2, 0);
        Check.failsIdly("party -1", court, Courts.INDEX, () -> court.challenge(-1));
        Check.failsIdly("party 4", court, Courts.INDEX, () -> court.challenge(4));
        Check.failsIdly("the asserter", court, Courts.STATE, () -> court.challenge(1));
        court.deposit(2, 901);
        Check.failsIdly("poor", court, Courts.ROOM, () -> court.challenge(2));
        court.deposit(3, 900);
        Check.same("its last 100", court.challenge(3), 0);
        Check.failsIdly("twice", court, Courts.STATE, () -> court.challenge(3));
        court.post(0, 0);
        Courts.blocks(court, 5);
        Check.same("over", court.game(0, 7), 0);
        Check.failsIdly("after it is over", court, Courts.STATE, () -> court.challenge(3));
        court.deposit(0, 900);
        Check.same("another", court.challenge(0), 1);
    }

    private static void halving() {
        StepCourt court = counter();
        long claim = court.claim(0, 9, 1);
        court.challenge(1);
        long first = court.post(0, 0);
        Check.same("first middle", first, court.truth(4));
        asked(court, 0, 1, 0, 9, court.base(), claim, first, 4, 2);
        Check.same("upper", court.pick(0, false), 5);
        asked(court, 0, 1, 4, 9, first, claim, 0, 4, 1);
        long second = court.post(0, 6);
        Check.same("second middle", second, court.truth(6) ^ 6);
        Check.same("lower", court.pick(0, true), 2);
        asked(court, 0, 1, 4, 6, first, second, 0, 4, 1);
        long third = court.post(0, -1L);
        Check.same("third middle", third, ~court.truth(5));
        Check.same("upper again", court.pick(0, false), 1);
        asked(court, 0, 1, 5, 6, third, second, 0, 4, 3);
    }

    private static void middleMayBeZero() {
        StepCourt court = counter();
        court.claim(0, 2, 0);
        court.challenge(1);
        Check.same("post", court.post(0, court.truth(1)), 0);
        asked(court, 0, 1, 0, 2, court.base(), court.truth(2), 0, 4, 2);
        Check.failsIdly("post again", court, Courts.STATE, () -> court.post(0, 0));
        Check.same("pick", court.pick(0, true), 1);
        Check.same("disputed", court.game(0, 4), 0);
    }

    private static void movesOutOfTurn() {
        StepCourt court = counter();
        court.claim(0, 2, 0);
        court.challenge(1);
        Check.failsIdly("pick before post", court, Courts.STATE, () -> court.pick(0, true));
        Check.failsIdly("prove before post", court, Courts.STATE, () -> court.prove(0, 0, 0));
        court.block();
        court.post(0, 0);
        court.block();
        Check.failsIdly("post before pick", court, Courts.STATE, () -> court.post(0, 0));
        Check.failsIdly("prove before pick", court, Courts.STATE, () -> court.prove(0, 0, 0));
        court.pick(0, false);
        Check.failsIdly("post before prove", court, Courts.STATE, () -> court.post(0, 0));
        Check.failsIdly("pick before prove", court, Courts.STATE, () -> court.pick(0, false));
        Check.yes("prove", court.prove(0, 0, 0));
        Check.same("over", court.game(0, 7), 0);
        Check.failsIdly("post when over", court, Courts.STATE, () -> court.post(0, 0));
        Check.failsIdly("pick when over", court, Courts.STATE, () -> court.pick(0, false));
        Check.failsIdly("prove when over", court, Courts.STATE, () -> court.prove(0, 0, 0));
    }

    private static void movesInNoGame() {
        StepCourt court = counter();
        for (int round = 0; round < 2; round++) {
            for (int g : new int[] {-1, 1, 3, Integer.MIN_VALUE, Integer.MAX_VALUE}) {
                Check.failsIdly("post", court, Courts.INDEX, () -> court.post(g, 0));
                Check.failsIdly("pick", court, Courts.INDEX, () -> court.pick(g, true));
                Check.failsIdly("prove", court, Courts.INDEX, () -> court.prove(g, 11, 0));
            }
            if (round == 0) {
                court.claim(0, 2, 0);
                court.challenge(1);
            }
        }
    }

    private static void deadlines() {
        StepCourt court = counter();
        court.claim(0, 2, 1);
        court.block();
        court.challenge(1);
        Check.same("begun", court.game(0, 6), 5);
        Courts.blocks(court, 4);
        Check.same("not late at its deadline", court.game(0, 7), 1);
        court.post(0, 0);
        Check.same("posted", court.game(0, 6), 9);
        Courts.blocks(court, 4);
        Check.same("pick not late", court.game(0, 7), 2);
        court.pick(0, false);
        Check.same("picked", court.game(0, 6), 13);
        Courts.blocks(court, 4);
        Check.same("prove not late", court.game(0, 7), 3);
        Check.no("bad proof", court.prove(0, 0, 0));
        Check.same("tried", court.game(0, 6), 17);
        Courts.blocks(court, 4);
        Check.same("open", court.assertion(0), 0);
        court.block();
        Check.same("late", court.assertion(0), -1);
    }

    private static void challengerIsLate() {
        StepCourt court = counter();
        court.claim(0, 2, 1);
        court.challenge(1);
        long middle = court.post(0, 0);
        Courts.blocks(court, 4);
        Check.same("runs", court.assertion(6), 1);
        court.block();
        Check.same("over", court.assertion(6), 0);
        Check.same("of one", court.assertion(5), 1);
        asked(court, 0, 1, 0, 2, court.base(), court.truth(2) ^ 1, middle, 4, 0);
        Check.same("asserter", court.balance(0), 1000);
        Check.same("challenger", court.balance(1), 900);
        court.block();
        Check.same("only once", court.balance(0), 1000);
    }

    private static void asserterIsLateToPost() {
        StepCourt court = counter();
        long base = court.base();
        court.claim(0, 2, 0);
        court.challenge(1);
        Check.same("block 1", court.block(), 1);
        Courts.blocks(court, 3);
        Check.same("open", court.assertion(0), 0);
        Check.same("block 5", court.block(), 5);
        Check.same("fallen", court.assertion(0), -1);
        Check.same("asserter", court.balance(0), 900);
        Check.same("challenger", court.balance(1), 1100);
        Check.same("base", court.base(), base);
        Check.same("state", court.state(0), 0);
        Check.same("pot", court.pot(), 0);
    }

    private static void asserterIsLateToProve() {
        StepCourt court = counter();
        court.claim(0, 1, 0);
        court.challenge(1);
        Check.same("to prove at once", court.game(0, 7), 3);
        Courts.blocks(court, 5);
        Check.same("fallen", court.assertion(0), -1);
        Check.same("challenger", court.balance(1), 1100);
    }

    private static void othersGetTheirsBack() {
        StepCourt court = counter();
        court.claim(0, 2, 0);
        court.challenge(1);
        court.challenge(2);
        court.block();
        court.challenge(3);
        court.post(1, 0);
        court.post(2, 0);
        court.pick(1, true);
        Check.yes("one game is won", court.prove(1, 0, 0));
        Courts.blocks(court, 4);
        Check.same("fallen", court.assertion(0), -1);
        Check.same("asserter", court.balance(0), 1000);
        Check.same("winner", court.balance(1), 1100);
        Check.same("loser of an earlier game", court.balance(2), 900);
        Check.same("of a running game", court.balance(3), 1000);
    }

    private static void gameByGame() {
        StepCourt court = counter();
        court.claim(0, 2, 0);
        court.challenge(1);
        court.challenge(2);
        court.challenge(3);
        court.post(0, 0);
        court.post(2, 0);
        Courts.blocks(court, 5);
        Check.same("fallen by game 1", court.assertion(0), -1);
        Check.same("game 0 was lost before", court.balance(1), 900);
        Check.same("asserter", court.balance(0), 1000);
        Check.same("winner", court.balance(2), 1100);
        Check.same("nothing came of game 2", court.balance(3), 1000);
    }

    private static void gamesEndWithTheAssertion() {
        StepCourt court = counter();
        court.claim(0, 2, 0);
        court.challenge(1);
        court.challenge(2);
        court.post(0, 0);
        court.block();
        court.challenge(3);
        Courts.blocks(court, 4);
        Check.same("game 0", court.game(0, 0), -1);
        Check.same("game 1", court.game(1, 0), -1);
        Check.fails("no game", Courts.INDEX, () -> court.pick(0, true));
        court.claim(3, 4, 0);
        Check.same("none yet", court.assertion(5), 0);
        Check.same("numbers begin anew", court.challenge(1), 0);
        asked(court, 0, 1, 0, 4, court.base(), court.truth(4), 0, 9, 1);
        Check.same("the old asserter", court.challenge(0), 1);
    }
}
