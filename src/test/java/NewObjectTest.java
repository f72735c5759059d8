/** Promise 1, and what the Terms say of everything at first. */
public final class NewObjectTest {
    public static void main(String[] args) {
        Check.sentence("a CODE of 16 instructions (op 0 .. 13, an argument), all 0 at first", NewObjectTest::code);
        Check.sentence("TRAIL (a long); all 0 at first", NewObjectTest::state);
        Check.sentence("PARTIES 0 .. 3 have BALANCES, 1000 each at first", NewObjectTest::balances);
        Check.sentence("there is a POT, 0 at first", NewObjectTest::pot);
        Check.sentence("an INBOX of at most 60 words", NewObjectTest::inbox);
        Check.sentence("a BLOCK number, 0 at first", NewObjectTest::block);
        Check.sentence("THE BASE is a commitment, at first that of the true state", NewObjectTest::base);
        Check.sentence("AN ASSERTION, at most one at a time", NewObjectTest::assertion);
        Check.sentence("Everything as it is at first.", NewObjectTest::courtsAreApart);
        Check.finish();
    }

    private static void code() {
        StepCourt court = new StepCourt();
        for (int j = 0; j <= 64; j++) {
            Check.same("all of it rests, truth " + j, court.truth(j), court.base());
        }
        for (int k = 1; k < 16; k++) {
            StepCourt other = Courts.coded(10, k);
            Check.after(other, 1, new View().pc(k));
            Check.after(other, 2, new View().pc(k));
        }
    }

    private static void state() {
        StepCourt court = new StepCourt();
        for (int what = 0; what <= 13; what++) {
            Check.same("state " + what, court.state(what), 0);
        }
    }

    private static void balances() {
        Check.balances(new StepCourt(), 1000, 1000, 1000, 1000);
    }

    private static void pot() {
        Check.same("pot", new StepCourt().pot(), 0);
    }

    private static void inbox() {
        StepCourt court = new StepCourt();
        for (int k = 0; k < 60; k++) {
            Check.same("word " + k, court.word(k), 0);
        }
        Check.same("the first word", court.send(7), 1);
    }

    private static void block() {
        Check.same("the first block", new StepCourt().block(), 1);
        StepCourt court = Courts.disputed(2);
        Check.same("an assertion made before it", court.assertion(3), 0);
        Check.same("a game begun before it", court.game(0, 6), 4);
    }

    private static void base() {
        StepCourt court = new StepCourt();
        Check.same("base", court.base(), -6801341350108235651L);
        Check.same("the commitment of the first state", court.base(), new View().commitment());
    }

    private static void assertion() {
        StepCourt court = new StepCourt();
        Check.noAssertion(court);
        Check.fails("challenge", Courts.STATE, () -> court.challenge(0));
        Check.fails("post", Courts.INDEX, () -> court.post(0, 0));
        Check.fails("draw", Courts.INDEX, () -> court.draw(0));
    }

    private static void courtsAreApart() {
        StepCourt one = Courts.coded(1, 5);
        StepCourt other = new StepCourt();
        one.deposit(0, 10);
        one.claim(1, 1, 0);
        one.challenge(2);
        one.block();
        String[] got = Courts.answers(other);
        String[] want = Courts.answers(new StepCourt());
        for (int i = 0; i < want.length; i++) {
            Check.yes("a court beside another: " + got[i] + ", alone: " + want[i], got[i].equals(want[i]));
        }
    }
}
