/** The Terms' words on what is to be done in a game, who wins, and when an assertion falls or stands. */
public final class OutcomeTest {
    public static void main(String[] args) {
        Check.sentence("its limit (how many words the inbox had when it was made)", OutcomeTest::limit);
        Check.sentence("TRUE COMMITMENT j of it is that of the true state after j steps with its limit.",
                OutcomeTest::trueCommitments);
        Check.sentence("A GAME, numbered 0, 1, 2 as they are begun against the assertion", OutcomeTest::numbers);
        Check.sentence("LOW and HIGH (steps, at first 0 and S); AGREED (a commitment for LOW, at first the base),"
                + " DISPUTED (one for HIGH, at first the claim); a MIDDLE or none", OutcomeTest::gameAtFirst);
        Check.sentence("a DEADLINE, the block number of its latest move (at first of its beginning) plus 4",
                OutcomeTest::deadline);
        Check.sentence("While HIGH - LOW is above 1 the asserter is to POST a middle", OutcomeTest::toPost);
        Check.sentence("for M = (LOW + HIGH) / 2", OutcomeTest::middleStep);
        Check.sentence("then the challenger is to PICK", OutcomeTest::toPick);
        Check.sentence("when it is 1 the asserter is to PROVE.", OutcomeTest::toProve);
        Check.sentence("the challenger gets its own 100 and the asserter's 100", OutcomeTest::challengerWins);
        Check.sentence("the challengers of other running games get their 100 back", OutcomeTest::othersGetTheirsBack);
        Check.sentence("there is no assertion then, and there are no games.", OutcomeTest::nothingIsLeftOfTheFallen);
        Check.sentence("The asserter WINS: the game is over, the asserter gets the challenger's 100.",
                OutcomeTest::asserterWins);
        Check.sentence("its block number plus 12 is not above the present one", OutcomeTest::twelveBlocks);
        Check.sentence("and no game is running", OutcomeTest::aRunningGameHoldsItBack);
        Check.sentence("when a block comes", OutcomeTest::standsInABlock);
        Check.sentence("and when a game ends", OutcomeTest::standsWhenAGameEnds);
        Check.sentence("its asserter gets its 100 back", OutcomeTest::asserterGetsItsBack);
        Check.sentence("the base becomes its claim", OutcomeTest::baseBecomesTheClaim);
        Check.sentence("the true state goes on by S steps with its limit", OutcomeTest::trueStateGoesOn);
        Check.sentence("and there is no assertion and no games.", OutcomeTest::nothingIsLeftOfWhatStood);
        Check.finish();
    }

    private static void limit() {
        StepCourt none = Courts.asserted(1);
        none.send(5);
        Check.same("without a word", none.assertion(2), 0);
        StepCourt full = Courts.withWords(60);
        full.claim(0, 1, 0);
        Check.same("with all words", full.assertion(2), 60);
        StepCourt some = Courts.withWords(4);
        some.claim(0, 1, 0);
        some.deposit(2, 5);
        Check.same("with 4 at that time", some.assertion(2), 4);
        Courts.blocks(some, 12);
        some.claim(0, 1, 0);
        Check.same("the next with 7", some.assertion(2), 7);
    }

    private static void trueCommitments() {
        StepCourt court = Courts.coded(9, 0, 9, 0);
        court.send(5);
        court.claim(0, 1, 0);
        court.send(6);
        Check.after(court, 0, new View());
        Check.after(court, 1, new View().pc(1).a(5).read(1));
        Check.after(court, 2, new View().pc(1).a(5).read(1));
        Check.after(court, 64, new View().pc(1).a(5).read(1));
    }

    private static void numbers() {
        StepCourt court = Courts.asserted(2);
        Check.same("first", court.challenge(3), 0);
        Check.same("second", court.challenge(1), 1);
        Check.same("third", court.challenge(2), 2);
        Check.same("challenger 0", court.game(0, 0), 3);
        Check.same("challenger 1", court.game(1, 0), 1);
        Check.same("challenger 2", court.game(2, 0), 2);
        StepCourt over = Courts.proven();
        Check.same("after one that is over", over.challenge(2), 1);
        StepCourt fallen = Courts.disputed(2);
        Courts.blocks(fallen, 5);
        fallen.claim(2, 4, 0);
        Check.same("anew against another assertion", fallen.challenge(1), 0);
        Check.game(fallen, 0, 1, 0, 4, fallen.base(), fallen.truth(4), 0, 9, 1);
    }

    private static void gameAtFirst() {
        for (int steps : new int[] {1, 2, 63, 64}) {
            StepCourt court = Courts.counter();
            Courts.standing(court, 2, 3, 1234);
            long claim = court.claim(0, steps, 99);
            court.challenge(3);
            Check.game(court, 0, 3, 0, steps, 1234, claim, 0, 16, steps == 1 ? 3 : 1);
        }
        for (boolean lower : new boolean[] {true, false}) {
            StepCourt court = Courts.posted(9);
            court.pick(0, lower);
            court.post(0, 0);
            court.challenge(2);
            Courts.blocks(court, 5);
            long claim = court.claim(0, 7, 3);
            court.challenge(3);
            Check.game(court, 0, 3, 0, 7, court.base(), claim, 0, 9, 1);
        }
    }

    private static void deadline() {
        StepCourt court = Courts.asserted(2);
        court.block();
        court.challenge(1);
        Check.same("begun in block 1", court.game(0, 6), 5);
        court.block();
        Check.same("a block alone", court.game(0, 6), 5);
        court.post(0, 0);
        Check.same("posted in block 2", court.game(0, 6), 6);
        court.block();
        court.pick(0, true);
        Check.same("picked in block 3", court.game(0, 6), 7);
        court.block();
        court.prove(0, 2, 1);
        Check.same("tried to prove in block 4", court.game(0, 6), 8);
        court.challenge(2);
        Check.same("another game has its own", court.game(1, 6), 8);
        Check.same("and this one too", court.game(0, 6), 8);
    }

    private static void toPost() {
        Check.same("64 steps", Courts.disputed(64).game(0, 7), 1);
        Check.same("3 steps", Courts.disputed(3).game(0, 7), 1);
        Check.same("2 steps", Courts.disputed(2).game(0, 7), 1);
        StepCourt court = Courts.posted(4);
        court.pick(0, true);
        Check.same("2 steps of 4", court.game(0, 7), 1);
        court = Courts.posted(3);
        court.pick(0, false);
        Check.same("steps 1 to 3", court.game(0, 7), 1);
    }

    private static void middleStep() {
        for (int steps = 2; steps <= 64; steps++) {
            StepCourt court = Courts.disputed(steps);
            Check.same("of 0 and " + steps, court.post(0, 0), court.truth(steps / 2));
            court.pick(0, false);
            Check.same("low", court.game(0, 1), steps / 2);
            if (court.game(0, 7) == 1) {
                int middle = (steps / 2 + steps) / 2;
                Check.same("of " + steps / 2 + " and " + steps, court.post(0, 0), court.truth(middle));
                court.pick(0, true);
                Check.same("high", court.game(0, 2), middle);
            }
        }
    }

    private static void toPick() {
        Check.same("64 steps", Courts.posted(64).game(0, 7), 2);
        Check.same("2 steps", Courts.posted(2).game(0, 7), 2);
        StepCourt zero = Courts.disputed(2);
        Check.same("a middle may be 0", zero.post(0, zero.truth(1)), 0);
        Check.same("then too", zero.game(0, 7), 2);
        Check.same("pick", zero.pick(0, true), 1);
        Check.same("disputed", zero.game(0, 4), 0);
    }

    private static void toProve() {
        Check.same("1 step", Courts.disputed(1).game(0, 7), 3);
        StepCourt lower = Courts.posted(2);
        lower.pick(0, true);
        Check.same("step 0 of 2", lower.game(0, 7), 3);
        StepCourt upper = Courts.posted(2);
        upper.pick(0, false);
        Check.same("step 1 of 2", upper.game(0, 7), 3);
        for (int low : new int[] {0, 31, 32, 63}) {
            StepCourt court = Courts.disputed(64);
            Courts.halve(court, 0, low);
            Check.same("step " + low + " of 64", court.game(0, 7), 3);
        }
    }

    private static void challengerWins() {
        StepCourt court = Courts.disputed(2);
        Check.balances(court, 900, 900, 1000, 1000);
        Courts.blocks(court, 5);
        Check.balances(court, 900, 1100, 1000, 1000);
        Check.same("pot", court.pot(), 0);
        Check.same("base", court.base(), new View().commitment());
        Check.same("the true state stays", court.state(0), 0);
        Courts.blocks(court, 12);
        Check.balances(court, 900, 1100, 1000, 1000);
        Check.same("the base stays", court.base(), new View().commitment());
    }

    private static void othersGetTheirsBack() {
        StepCourt court = Courts.disputed(2);
        court.challenge(2);
        court.block();
        court.challenge(3);
        court.post(1, 0);
        court.pick(1, true);
        Check.yes("game 1 is over", court.prove(1, 0, 0));
        Courts.blocks(court, 4);
        Check.same("fallen by game 0", court.assertion(0), -1);
        Check.balances(court, 1000, 1100, 900, 1000);
    }

    private static void nothingIsLeftOfTheFallen() {
        StepCourt court = Courts.disputed(2);
        court.challenge(2);
        court.post(1, 0);
        Courts.blocks(court, 5);
        Check.noAssertion(court);
        Check.fails("no game to pick in", Courts.INDEX, () -> court.pick(1, true));
        Check.fails("nothing to challenge", Courts.STATE, () -> court.challenge(3));
        court.claim(3, 4, 0);
        Check.assertion(court, 3, 4, 0, 5, court.truth(4), 0, 0);
    }

    private static void asserterWins() {
        StepCourt court = Courts.proven();
        Check.balances(court, 1000, 900, 1000, 1000);
        Check.same("over", court.game(0, 7), 0);
        Check.same("there is still the assertion", court.assertion(5), 1);
        Check.same("without a running game", court.assertion(6), 0);
        Courts.blocks(court, 5);
        Check.balances(court, 1000, 900, 1000, 1000);
        StepCourt late = Courts.posted(2);
        Courts.blocks(late, 5);
        Check.balances(late, 1000, 900, 1000, 1000);
        Check.same("over too", late.game(0, 7), 0);
        Check.same("running", late.assertion(6), 0);
    }

    private static void twelveBlocks() {
        for (int made : new int[] {0, 3}) {
            StepCourt court = Courts.counter();
            Courts.blocks(court, made);
            court.claim(0, 1, 0);
            Courts.blocks(court, 11);
            Check.same("11 blocks later", court.assertion(0), 0);
            Check.same("the true state", court.state(0), 0);
            court.block();
            Check.noAssertion(court);
            Check.same("the true state then", court.state(0), 1);
        }
    }

    /** A proof that fails in blocks 4, 8 and 12 keeps the game running. */
    private static StepCourt heldBack() {
        StepCourt court = Courts.disputed(1);
        for (int i = 0; i < 3; i++) {
            Courts.blocks(court, 4);
            Check.no("a bad proof", court.prove(0, 2, 1));
        }
        return court;
    }

    private static void aRunningGameHoldsItBack() {
        StepCourt court = heldBack();
        Check.assertion(court, 0, 1, 0, 0, court.truth(1), 1, 1);
        court.block();
        Check.same("in block 13", court.assertion(6), 1);
        Check.same("another may begin then", court.challenge(2), 1);
        Check.yes("the first ends", court.prove(0, 0, 0));
        Check.assertion(court, 0, 1, 0, 0, court.truth(1), 2, 1);
        Check.same("the true state", court.state(0), 0);
        court.block();
        Check.same("in block 14", court.assertion(6), 1);
        StepCourt over = Courts.proven();
        Courts.blocks(over, 12);
        Check.noAssertion(over);
    }

    private static void standsInABlock() {
        StepCourt court = Courts.asserted(2);
        Courts.blocks(court, 9);
        court.challenge(1);
        court.post(0, 0);
        Courts.blocks(court, 4);
        Check.same("a running game in block 13", court.assertion(6), 1);
        court.block();
        Check.noAssertion(court);
        Check.balances(court, 1100, 900, 1000, 1000);
        Check.same("the true state", court.state(0), 2);
    }

    private static void standsWhenAGameEnds() {
        StepCourt court = heldBack();
        Check.yes("a good proof in block 12", court.prove(0, 0, 0));
        Check.noAssertion(court);
        Check.balances(court, 1100, 900, 1000, 1000);
        Check.same("the true state", court.state(0), 1);
        StepCourt early = Courts.asserted(1);
        Courts.blocks(early, 11);
        early.challenge(1);
        Check.yes("a good proof in block 11", early.prove(0, 0, 0));
        Check.assertion(early, 0, 1, 0, 0, early.truth(1), 1, 0);
        early.block();
        Check.noAssertion(early);
    }

    private static void asserterGetsItsBack() {
        StepCourt court = Courts.asserted(1);
        Check.balances(court, 900, 1000, 1000, 1000);
        Courts.blocks(court, 12);
        Check.balances(court, 1000, 1000, 1000, 1000);
        Courts.blocks(court, 12);
        Check.balances(court, 1000, 1000, 1000, 1000);
    }

    private static void baseBecomesTheClaim() {
        StepCourt court = Courts.counter();
        long claim = court.claim(0, 1, 77);
        Courts.blocks(court, 11);
        Check.same("before", court.base(), new View().commitment());
        court.block();
        Check.same("then", court.base(), claim);
        Check.same("although it was a lie", court.base(), new View().pc(1).b(1).commitment() ^ 77);
        Check.after(court, 0, new View().pc(1).b(1));
    }

    private static void trueStateGoesOn() {
        StepCourt court = Courts.coded(9, 0, 10, 0);
        court.send(7);
        court.claim(0, 64, 5);
        court.send(8);
        Courts.blocks(court, 12);
        Check.after(court, 0, new View().a(7).read(1));
        Check.same("read", court.state(3), 1);
        court.claim(0, 1, 0);
        Courts.blocks(court, 12);
        Check.after(court, 0, new View().pc(1).a(8).read(2));
    }

    private static void nothingIsLeftOfWhatStood() {
        StepCourt court = Courts.proven();
        Courts.blocks(court, 12);
        Check.noAssertion(court);
        Check.fails("no game to post in", Courts.INDEX, () -> court.post(0, 0));
        Check.fails("nothing to challenge", Courts.STATE, () -> court.challenge(1));
        court.claim(1, 1, 0);
        Check.same("its challenger asserts", court.assertion(0), 1);
        Check.same("its asserter challenges", court.challenge(0), 0);
    }
}
