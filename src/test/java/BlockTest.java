/** Promise 10: block. */
public final class BlockTest {
    public static void main(String[] args) {
        Check.sentence("A block comes: its number grows by 1.", BlockTest::grows);
        Check.sentence("each running one whose deadline is below it", BlockTest::deadlineBelow);
        Check.sentence("is lost by who is to do something", BlockTest::asserterIsLate);
        Check.sentence("(the challenger when it is to pick", BlockTest::challengerIsLate);
        Check.sentence("game by game", BlockTest::gameByGame);
        Check.sentence("each running one", BlockTest::overIsOver);
        Check.sentence("if the assertion falls by one, nothing comes of the others)", BlockTest::nothingOfTheOthers);
        Check.sentence("Then, game by game", BlockTest::lateInTheTwelfthBlock);
        Check.sentence("Answers the block number.", BlockTest::answers);
        Check.finish();
    }

    private static void grows() {
        StepCourt court = new StepCourt();
        for (int i = 1; i <= 511; i++) {
            Check.same("block", court.block(), i);
        }
        StepCourt made = new StepCourt();
        Courts.blocks(made, 5);
        made.claim(0, 1, 0);
        Check.same("made in it", made.assertion(3), 5);
    }

    /** In which something is to be done since block 0: 1 to post, 2 to pick, 3 to prove. */
    private static StepCourt waiting(int toDo) {
        return toDo == 1 ? Courts.disputed(2) : toDo == 2 ? Courts.posted(2) : Courts.disputed(1);
    }

    private static void deadlineBelow() {
        for (int toDo = 1; toDo <= 3; toDo++) {
            StepCourt court = waiting(toDo);
            Check.same("to do", court.game(0, 7), toDo);
            Check.same("deadline", court.game(0, 6), 4);
            for (int i = 1; i <= 4; i++) {
                court.block();
                Check.same("in block " + i, court.game(0, 7), toDo);
                Check.balances(court, 900, 900);
            }
            court.block();
            Check.same("in block 5", court.game(0, 7), toDo == 2 ? 0 : -1);
            Check.balances(court, toDo == 2 ? 1000 : 900, toDo == 2 ? 900 : 1100);
        }
        StepCourt moved = waiting(1);
        Courts.blocks(moved, 4);
        moved.post(0, 0);
        Courts.blocks(moved, 4);
        Check.same("a move in block 4", moved.game(0, 7), 2);
        moved.block();
        Check.same("then late", moved.game(0, 7), 0);
    }

    private static void asserterIsLate() {
        for (int toDo : new int[] {1, 3}) {
            StepCourt court = waiting(toDo);
            Courts.blocks(court, 5);
            Check.noAssertion(court);
            Check.balances(court, 900, 1100, 1000, 1000);
        }
        StepCourt second = Courts.posted(4);
        second.pick(0, true);
        Courts.blocks(second, 5);
        Check.noAssertion(second);
        Check.balances(second, 900, 1100, 1000, 1000);
        StepCourt tried = waiting(3);
        Check.no("a bad proof", tried.prove(0, 2, 1));
        Courts.blocks(tried, 5);
        Check.noAssertion(tried);
    }

    private static void challengerIsLate() {
        StepCourt court = waiting(2);
        long middle = court.game(0, 5);
        Courts.blocks(court, 5);
        Check.assertion(court, 0, 2, 0, 0, court.truth(2), 1, 0);
        Check.game(court, 0, 1, 0, 2, court.base(), court.truth(2), middle, 4, 0);
        Check.balances(court, 1000, 900, 1000, 1000);
        StepCourt zero = Courts.disputed(2);
        zero.post(0, zero.truth(1));
        Courts.blocks(zero, 5);
        Check.same("a middle of 0 is one to pick from", zero.game(0, 7), 0);
        Check.balances(zero, 1000, 900, 1000, 1000);
    }

    /** Games 0, 1 and 2 of parties 1, 2 and 3, all begun in block 0; those of the picks wait for a pick. */
    private static StepCourt threeGames(int... picks) {
        StepCourt court = Courts.disputed(2);
        court.challenge(2);
        court.challenge(3);
        for (int g : picks) {
            court.post(g, 0);
        }
        return court;
    }

    private static void gameByGame() {
        StepCourt all = threeGames(0, 1, 2);
        Courts.blocks(all, 5);
        Check.balances(all, 1200, 900, 900, 900);
        Check.assertion(all, 0, 2, 0, 0, all.truth(2), 3, 0);
        StepCourt first = threeGames(0, 1);
        Courts.blocks(first, 5);
        Check.noAssertion(first);
        Check.balances(first, 1100, 900, 900, 1100);
        StepCourt one = Courts.disputed(2);
        waitForTwoPicks(one);
        Courts.blocks(one, 4);
        Check.same("only the late one is over", one.assertion(6), 1);
        Check.same("game 0", one.game(0, 7), 0);
        Check.same("game 1", one.game(1, 7), 2);
        Check.balances(one, 1000, 900, 900, 1000);
    }

    /** Waits for a pick in game 0 since block 0, in game 1 since block 1. */
    private static void waitForTwoPicks(StepCourt court) {
        court.post(0, 0);
        court.block();
        court.challenge(2);
        court.post(1, 0);
    }

    private static void overIsOver() {
        StepCourt court = Courts.proven();
        Courts.blocks(court, 11);
        Check.balances(court, 1000, 900, 1000, 1000);
        Check.assertion(court, 0, 1, 0, 0, court.truth(1), 1, 0);
        StepCourt late = waiting(2);
        Courts.blocks(late, 11);
        Check.balances(late, 1000, 900, 1000, 1000);
        Check.same("deadline", late.game(0, 6), 4);
    }

    private static void nothingOfTheOthers() {
        StepCourt middle = threeGames(0, 2);
        Courts.blocks(middle, 5);
        Check.noAssertion(middle);
        Check.balances(middle, 1000, 900, 1100, 1000);
        StepCourt first = threeGames(1, 2);
        Courts.blocks(first, 5);
        Check.noAssertion(first);
        Check.balances(first, 900, 1100, 1000, 1000);
        StepCourt none = threeGames();
        Courts.blocks(none, 5);
        Check.noAssertion(none);
        Check.balances(none, 900, 1100, 1000, 1000);
        Courts.blocks(none, 5);
        Check.balances(none, 900, 1100, 1000, 1000);
    }

    /** A game that was begun in block 7 is late in block 12, where its assertion could stand. */
    private static StepCourt begunInSeven(int steps, boolean toPick) {
        StepCourt court = Courts.asserted(steps);
        Courts.blocks(court, 7);
        court.challenge(1);
        if (toPick) {
            court.post(0, 0);
        }
        Courts.blocks(court, 4);
        Check.same("in block 11", court.assertion(6), 1);
        Check.same("block", court.block(), 12);
        return court;
    }

    private static void lateInTheTwelfthBlock() {
        StepCourt won = begunInSeven(2, true);
        Check.noAssertion(won);
        Check.balances(won, 1100, 900, 1000, 1000);
        Check.same("it stood", won.base(), new View().pc(2).a(1).b(1).commitment());
        Check.same("the true state", won.state(0), 2);
        for (int steps = 1; steps <= 2; steps++) {
            StepCourt lost = begunInSeven(steps, false);
            Check.noAssertion(lost);
            Check.balances(lost, 900, 1100, 1000, 1000);
            Check.same("it fell", lost.base(), new View().commitment());
            Check.same("the true state", lost.state(0), 0);
        }
    }

    private static void answers() {
        StepCourt court = Courts.disputed(2);
        Courts.blocks(court, 4);
        Check.same("when an assertion falls", court.block(), 5);
        court.claim(0, 1, 0);
        Courts.blocks(court, 11);
        Check.same("when one stands", court.block(), 17);
        Check.same("then", court.block(), 18);
    }
}
