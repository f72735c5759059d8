/** Promise 1, and promises 12 to 19 as they answer at first. */
public final class NewObjectTest {
    public static void main(String[] args) {
        StepCourt court = new StepCourt();
        for (int p = 0; p < 4; p++) {
            Check.same("balance " + p, court.balance(p), 1000);
        }
        Check.same("pot", court.pot(), 0);
        Check.same("base", court.base(), -6801341350108235651L);
        Check.same("base is of the first state", court.base(), new View().commitment());
        for (int j = 0; j <= 64; j++) {
            Check.same("truth " + j, court.truth(j), court.base());
        }
        for (int k = 0; k < 60; k++) {
            Check.same("word " + k, court.word(k), 0);
        }
        for (int what = -1; what <= 14; what++) {
            Check.same("state " + what, court.state(what), 0);
            Check.same("assertion " + what, court.assertion(what), -1);
            Check.same("game " + what, court.game(0, what), -1);
        }
        Check.fails("draw", Courts.INDEX, () -> court.draw(0));
        Check.fails("post", Courts.INDEX, () -> court.post(0, 0));
        Check.fails("challenge", Courts.STATE, () -> court.challenge(0));
        Check.same("first block", court.block(), 1);
        twoCourtsAreApart();
        Check.finish();
    }

    private static void twoCourtsAreApart() {
        StepCourt one = new StepCourt();
        StepCourt other = new StepCourt();
        one.code(0, 1, 5);
        one.deposit(0, 10);
        one.claim(1, 1, 0);
        one.challenge(2);
        one.block();
        Check.same("other balance", other.balance(0), 1000);
        Check.same("other pot", other.pot(), 0);
        Check.same("other word", other.word(0), 0);
        Check.same("other assertion", other.assertion(0), -1);
        Check.same("other truth", other.truth(1), other.base());
        Check.same("other block", other.block(), 1);
        Check.yes("other code", other.code(0, 1, 5));
    }
}
