/** Promises 12 to 19: balance, pot, word, truth, base, state, assertion and game. */
public final class AskTest {
    public static void main(String[] args) {
        Check.sentence("A balance; -1 when there is no party p.", AskTest::balance);
        Check.sentence("What is in the pot.", AskTest::pot);
        Check.sentence("Word k, from 0, of the inbox; 0 when there is none.", AskTest::word);
        Check.sentence("True commitment j of the assertion", AskTest::truthOfTheAssertion);
        Check.sentence("or, when there is none, that of the true state after j steps with all of the inbox as its limit",
                AskTest::truthWithoutOne);
        Check.sentence("0 when j is not 0 .. 64.", AskTest::truthOutside);
        Check.sentence("The base.", AskTest::base);
        Check.sentence("Of the true state: 0 pc, 1 a, 2 b, 3 READ, 4 PAID, 5 TRAIL, 6 .. 13 the cells", AskTest::state);
        Check.sentence("0 for another.", AskTest::stateOfAnother);
        Check.sentence("Of the assertion: 0 its asserter, 1 S, 2 its limit, 3 the block when it was made, 4 its claim,"
                + " 5 how many games, 6 how many of them are running", AskTest::assertion);
        Check.sentence("-1 when there is none, or for another.", AskTest::noAssertion);
        Check.sentence("or for another.", AskTest::assertionOfAnother);
        Check.sentence("Of game g: 0 its challenger, 1 LOW, 2 HIGH, 3 AGREED, 4 DISPUTED", AskTest::game);
        Check.sentence("5 the middle (0 when there is none)", AskTest::gameWithoutMiddle);
        Check.sentence("7 what is to be done: 0 nothing (it is over), 1 POST, 2 PICK, 3 PROVE", AskTest::toBeDone);
        Check.sentence("-1 when there is no game g", AskTest::noGame);
        Check.sentence("or for another.", AskTest::gameOfAnother);
        Check.sentence("Nothing is promised beyond the answers and state changes described above",
                AskTest::askingChangesNothing);
        Check.finish();
    }

    private static void balance() {
        StepCourt court = Courts.disputed(2);
        court.deposit(3, 7);
        Check.balances(court, 900, 900, 1000, 993);
        for (int p : Courts.NO_PARTIES) {
            Check.same("party " + p, court.balance(p), -1);
        }
        StepCourt poor = new StepCourt();
        poor.deposit(3, 1000);
        Check.same("nothing left", poor.balance(3), 0);
    }

    private static void pot() {
        StepCourt court = Courts.coded(1, 5, 13, 0);
        court.deposit(3, 7);
        Check.same("a deposit", court.pot(), 7);
        court.claim(0, 2, 0);
        court.challenge(1);
        Check.same("stakes are elsewhere", court.pot(), 7);
        Courts.blocks(court, 5);
        Check.same("when it fell", court.pot(), 7);
        Courts.standingTruth(court, 0, 2);
        Check.same("when it stood", court.pot(), 7);
        court.draw(0);
        Check.same("drawn", court.pot(), 2);
    }

    private static void word() {
        StepCourt court = Courts.withWords(2);
        Check.same("word 0", court.word(0), 1);
        Check.same("word 1", court.word(1), 2);
        for (int k : new int[] {-1, 2, 3, 59, 60, 61, Courts.MIN, Courts.MAX}) {
            Check.same("word " + k, court.word(k), 0);
        }
        StepCourt full = Courts.withWords(60);
        for (int k = 0; k < 60; k++) {
            Check.same("word " + k + " of 60", full.word(k), k + 1);
        }
        Check.same("word 60 of 60", full.word(60), 0);
        Check.same("word -1 of 60", full.word(-1), 0);
    }

    /** Takes a word and goes back. */
    private static StepCourt taker() {
        StepCourt court = Courts.coded(9, 0, 10, 0);
        court.send(5);
        return court;
    }

    private static void truthOfTheAssertion() {
        StepCourt court = taker();
        court.claim(0, 2, 99);
        court.send(6);
        Check.after(court, 0, new View());
        Check.after(court, 1, new View().pc(1).a(5).read(1));
        Check.after(court, 2, new View().a(5).read(1));
        Check.after(court, 3, new View().a(5).read(1));
        Check.after(court, 64, new View().a(5).read(1));
    }

    private static void truthWithoutOne() {
        StepCourt court = taker();
        Check.after(court, 3, new View().a(5).read(1));
        court.send(6);
        Check.after(court, 3, new View().pc(1).a(6).read(2));
        court.claim(0, 2, 0);
        court.send(7);
        Courts.blocks(court, 12);
        Check.after(court, 0, new View().a(5).read(1));
        Check.after(court, 1, new View().pc(1).a(6).read(2));
        Check.after(court, 3, new View().pc(1).a(7).read(3));
        StepCourt fallen = taker();
        fallen.claim(0, 2, 0);
        fallen.challenge(1);
        fallen.send(6);
        Courts.blocks(fallen, 5);
        Check.after(fallen, 3, new View().pc(1).a(6).read(2));
    }

    private static void truthOutside() {
        for (int j : new int[] {-1, 65, 66, 128, Courts.MIN, Courts.MAX}) {
            Check.same("truth " + j, Courts.counter().truth(j), 0);
            Check.same("truth " + j + " of an assertion", Courts.asserted(64).truth(j), 0);
        }
        Check.after(Courts.counter(), 64, new View().pc(2).a(32).b(1));
        Check.after(Courts.counter(), 0, new View());
        Check.after(Courts.asserted(1), 64, new View().pc(2).a(32).b(1));
    }

    private static void base() {
        StepCourt court = Courts.counter();
        Check.same("at first", court.base(), new View().commitment());
        court.claim(0, 1, 9);
        Check.same("an assertion alone", court.base(), new View().commitment());
        Courts.blocks(court, 12);
        Check.same("when it stood", court.base(), new View().pc(1).b(1).commitment() ^ 9);
        court.claim(0, 1, 0);
        court.challenge(1);
        Courts.blocks(court, 5);
        Check.same("when one fell", court.base(), new View().pc(1).b(1).commitment() ^ 9);
    }

    private static StepCourt full() {
        StepCourt court = Courts.coded(1, -7, 2, -3, 8, 0, 13, 0, 9, 0, 2, 12, 8, 0);
        court.send(21);
        Courts.standingTruth(court, 0, 7);
        return court;
    }

    private static void state() {
        StepCourt court = full();
        long[] due = {7, 21, 12, 1, 1, View.mix(View.mix(0, 1), -7), 0, 0, 0, 0, 21, -7, 0, 0};
        for (int what = 0; what < due.length; what++) {
            Check.same("state " + what, court.state(what), due[what]);
        }
        for (int k = 0; k < 8; k++) {
            StepCourt each = Courts.coded(1, -9 - k, 2, k, 8, 0);
            each.claim(0, 3, 0);
            Check.same("not yet", each.state(6 + k), 0);
            Courts.blocks(each, 12);
            Check.same("cell " + k, each.state(6 + k), -9 - k);
        }
    }

    private static void stateOfAnother() {
        for (int what : new int[] {-1, 14, 15, 16, Courts.MIN, Courts.MIN + 5, Courts.MIN + 6, Courts.MAX}) {
            Check.same("state " + what, full().state(what), 0);
            for (int k = 0; k < 8; k++) {
                StepCourt one = Courts.coded(1, 5, 2, k, 8, 0);
                Courts.standingTruth(one, 0, 3);
                Check.same("state " + what + " with a cell " + k, one.state(what), 0);
            }
        }
    }

    private static void assertion() {
        StepCourt court = Courts.withWords(3);
        Courts.blocks(court, 2);
        long claim = court.claim(3, 64, 8);
        Check.assertion(court, 3, 64, 3, 2, claim, 0, 0);
        court.challenge(1);
        Check.assertion(court, 3, 64, 3, 2, claim, 1, 1);
        court.post(0, 0);
        Courts.blocks(court, 5);
        court.challenge(2);
        court.challenge(0);
        Check.assertion(court, 3, 64, 3, 2, claim, 3, 2);
    }

    private static void noAssertion() {
        Check.noAssertion(Courts.counter());
        StepCourt fallen = Courts.disputed(2);
        Courts.blocks(fallen, 5);
        Check.noAssertion(fallen);
        StepCourt stood = Courts.proven();
        Courts.blocks(stood, 12);
        Check.noAssertion(stood);
        for (int what : new int[] {-1, 7, Courts.MIN, Courts.MAX}) {
            Check.same("assertion " + what, stood.assertion(what), -1);
        }
    }

    private static void assertionOfAnother() {
        for (int what : new int[] {-1, 7, 8, Courts.MIN, Courts.MAX}) {
            Check.same("assertion " + what, Courts.disputed(2).assertion(what), -1);
        }
    }

    private static void game() {
        StepCourt court = Courts.counter();
        long claim = court.claim(2, 9, 4);
        court.block();
        court.challenge(3);
        Check.game(court, 0, 3, 0, 9, court.base(), claim, 0, 5, 1);
        long first = court.post(0, 1);
        Check.game(court, 0, 3, 0, 9, court.base(), claim, first, 5, 2);
        court.pick(0, false);
        Check.game(court, 0, 3, 4, 9, first, claim, 0, 5, 1);
        long second = court.post(0, 2);
        court.pick(0, true);
        Check.game(court, 0, 3, 4, 6, first, second, 0, 5, 1);
        court.block();
        long third = court.post(0, 3);
        court.pick(0, false);
        Check.game(court, 0, 3, 5, 6, third, second, 0, 6, 3);
    }

    private static void gameWithoutMiddle() {
        Check.same("at first", Courts.disputed(2).game(0, 5), 0);
        StepCourt court = Courts.posted(2);
        Check.same("posted", court.game(0, 5), court.truth(1));
        court.pick(0, true);
        Check.same("picked", court.game(0, 5), 0);
        Check.same("proven", Courts.proven().game(0, 5), 0);
        StepCourt again = Courts.disputed(2);
        again.challenge(2);
        again.post(1, 0);
        Courts.blocks(again, 5);
        again.claim(0, 2, 0);
        again.challenge(1);
        again.challenge(2);
        Check.same("a new game's", again.game(1, 5), 0);
    }

    private static void toBeDone() {
        Check.same("to post", Courts.disputed(2).game(0, 7), 1);
        Check.same("to pick", Courts.posted(2).game(0, 7), 2);
        Check.same("to prove", Courts.disputed(1).game(0, 7), 3);
        Check.same("proven", Courts.proven().game(0, 7), 0);
        StepCourt late = Courts.posted(2);
        Courts.blocks(late, 5);
        Check.same("lost", late.game(0, 7), 0);
    }

    private static void noGame() {
        for (int what = 0; what <= 7; what++) {
            for (int g : new int[] {-1, 1, 2, 3, Courts.MIN, Courts.MAX}) {
                Check.same("game " + g, Courts.posted(2).game(g, what), -1);
            }
            Check.same("without an assertion", Courts.counter().game(0, what), -1);
            Check.same("without a game", Courts.asserted(2).game(0, what), -1);
            StepCourt fallen = Courts.disputed(2);
            Courts.blocks(fallen, 5);
            Check.same("when it fell", fallen.game(0, what), -1);
            StepCourt stood = Courts.proven();
            Courts.blocks(stood, 12);
            Check.same("when it stood", stood.game(0, what), -1);
            StepCourt three = Courts.disputed(2);
            three.challenge(2);
            three.challenge(3);
            Check.same("a fourth", three.game(3, what), -1);
            Check.same("before the first", three.game(-1, what), -1);
        }
    }

    private static void gameOfAnother() {
        for (int what : new int[] {-1, 8, 9, Courts.MIN, Courts.MAX}) {
            Check.same("what " + what, Courts.posted(2).game(0, what), -1);
            Check.same("what " + what, Courts.proven().game(0, what), -1);
        }
    }

    private static void askingChangesNothing() {
        Check.idle("asking", AskTest::full, court -> {
            court.truth(64);
            court.truth(-1);
            court.state(5);
            court.word(3);
            court.balance(9);
            court.game(0, 0);
            court.assertion(0);
            court.base();
            court.pot();
        });
        Check.idle("asking in a game", () -> Courts.posted(9), court -> {
            court.truth(64);
            court.game(0, 5);
            court.assertion(6);
        });
    }
}
