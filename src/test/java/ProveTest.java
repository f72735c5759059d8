/** Promise 9 (prove): what the court makes of the words that the asserter gives. */
public final class ProveTest {
    private static final int MIN = Integer.MIN_VALUE;

    public static void main(String[] args) {
        everyOpIsProven();
        everyPartCounts();
        whatIsChecked();
        aTrueProofWins();
        aFalseProofChangesNothing();
        lowerBoundIsUsed();
        pcOutsideTheCode();
        wordsThatAreNotThere();
        limitOfTheAssertion();
        paidAboveThirty();
        anotherPlace();
        longsAreAlteredByTheSignedInt();
        disputedMustBeReached();
        Check.finish();
    }

    /** A game whose only step is left, from a base and to a claim as given. */
    private static StepCourt dispute(StepCourt court, int steps, long agreed, long disputed) {
        Courts.standing(court, 0, steps, agreed);
        Check.same("claim", court.claim(0, 1, court.truth(1) ^ disputed), disputed);
        Check.same("challenge", court.challenge(1), 0);
        return court;
    }

    private static void everyOpIsProven() {
        for (int op = 0; op <= 13; op++) {
            StepCourt court = Courts.coded(1, 6, 2, 13, 8, 0, 1, -9, op, 21);
            court.send(41);
            court.send(42);
            court.claim(0, 5, 0);
            court.challenge(1);
            Courts.halve(court, 0, 4);
            Check.yes("op " + op, court.prove(0, 0, 77));
            for (int low = 0; low < 5; low++) {
                StepCourt each = Courts.coded(1, 6, 2, 13, 8, 0, op, 21, 3, 0);
                each.claim(0, 5, 0);
                each.challenge(1);
                Courts.halve(each, 0, low);
                Check.yes("op " + op + " low " + low, each.prove(0, 0, 0));
            }
        }
        for (int place = 0; place < 8; place++) {
            for (int op = 7; op <= 8; op++) {
                StepCourt court = Courts.coded(1, 5, 2, place, 8, 0, 1, 8, op, 0);
                court.claim(0, 5, 0);
                court.challenge(1);
                Courts.halve(court, 0, 4);
                Check.yes("op " + op + " place " + place, court.prove(0, 0, 0));
            }
        }
    }

    private static void everyPartCounts() {
        StepCourt court = Courts.coded(1, 6, 2, 13, 8, 0, 13, 0, 9, 0, 8, 0);
        court.send(3);
        court.claim(0, 6, 0);
        court.challenge(1);
        Courts.halve(court, 0, 5);
        for (int what = 1; what <= 10; what++) {
            for (int x : new int[] {1, 8, 16, -1, MIN}) {
                Check.no("what " + what + " x " + x, court.prove(0, what, x));
            }
        }
        for (int what = 1; what <= 10; what++) {
            StepCourt each = Courts.coded(1, 6);
            each.claim(0, 1, 0);
            each.challenge(1);
            Check.yes("x 0 alters nothing of " + what, each.prove(0, what, 0));
        }
        Check.yes("nothing altered", court.prove(0, 0, -1));
    }

    private static void whatIsChecked() {
        StepCourt court = Courts.coded(1, 6);
        court.claim(0, 2, 0);
        court.challenge(1);
        Check.fails("state before what", Courts.STATE, () -> court.prove(0, 11, 0));
        Check.fails("game before what", Courts.INDEX, () -> court.prove(1, 11, 0));
        Courts.halve(court, 0, 0);
        court.block();
        Check.failsIdly("11", court, Courts.ARGUMENT, () -> court.prove(0, 11, 0));
        Check.failsIdly("-1", court, Courts.ARGUMENT, () -> court.prove(0, -1, 0));
        Check.failsIdly("least", court, Courts.ARGUMENT, () -> court.prove(0, MIN, 0));
        Check.failsIdly("most", court, Courts.ARGUMENT, () -> court.prove(0, Integer.MAX_VALUE, 0));
    }

    private static void aTrueProofWins() {
        StepCourt court = Courts.coded(1, 6);
        long claim = court.claim(0, 1, 0);
        court.challenge(1);
        court.challenge(2);
        court.block();
        Check.yes("proof", court.prove(0, 0, 0));
        long[] due = {1, 0, 1, court.base(), claim, 0, 5, 0};
        for (int what = 0; what < due.length; what++) {
            Check.same("game " + what, court.game(0, what), due[what]);
        }
        Check.same("asserter", court.balance(0), 1000);
        Check.same("challenger", court.balance(1), 900);
        Check.same("the other", court.balance(2), 900);
        Check.same("running", court.assertion(6), 1);
        Check.same("the true state waits", court.state(1), 0);
    }

    private static void aFalseProofChangesNothing() {
        StepCourt court = Courts.coded(1, 6);
        court.claim(0, 1, 0);
        court.challenge(1);
        String before = Courts.picture(court);
        Check.no("in the same block", court.prove(0, 2, 1));
        Check.yes("nothing changed", before.equals(Courts.picture(court)));
        Courts.blocks(court, 3);
        Check.no("later", court.prove(0, 2, 1));
        Check.same("deadline", court.game(0, 6), 7);
        Check.same("to prove", court.game(0, 7), 3);
        Check.same("asserter", court.balance(0), 900);
        Check.yes("then a good one", court.prove(0, 0, 0));
    }

    private static void lowerBoundIsUsed() {
        StepCourt court = Courts.coded(1, 6, 1, 7, 1, 8);
        court.claim(0, 3, 1);
        court.challenge(1);
        court.post(0, 5);
        court.pick(0, true);
        Check.same("step 0 in question", court.game(0, 2), 1);
        Check.no("a middle that was no truth", court.prove(0, 0, 0));
        court.challenge(2);
        court.post(1, 0);
        court.pick(1, true);
        Check.yes("a true middle", court.prove(1, 0, 0));
    }

    private static void pcOutsideTheCode() {
        for (int x : new int[] {16, -16, -1, MIN}) {
            for (int end : new int[] {0, x}) {
                StepCourt court = new StepCourt();
                dispute(court, 1, new View().pc(x).commitment(), new View().pc(end).commitment());
                Check.no("pc " + x + " to " + end, court.prove(0, 1, x));
            }
        }
        StepCourt court = new StepCourt();
        dispute(court, 1, new View().pc(15).commitment(), new View().pc(15).commitment());
        Check.yes("pc 15", court.prove(0, 1, 15));
    }

    private static StepCourt taker() {
        StepCourt court = Courts.coded(1, 5, 9, 0);
        court.send(31);
        return court;
    }

    private static void wordsThatAreNotThere() {
        View before = new View().pc(1).a(5).read(-7);
        View after = new View().pc(2).a(0).read(-6);
        Check.yes("word -7", dispute(taker(), 1, before.commitment(), after.commitment()).prove(0, 4, -7));
        before.read(MIN);
        after.read(MIN + 1);
        Check.yes("word least", dispute(taker(), 1, before.commitment(), after.commitment()).prove(0, 4, MIN));
        before.read(9);
        Check.yes("word 9 is above the limit",
                dispute(taker(), 1, before.commitment(), before.commitment()).prove(0, 4, 9));
        after.read(10);
        Check.no("so it isn't taken", dispute(taker(), 1, before.commitment(), after.commitment()).prove(0, 4, 9));
    }

    private static void limitOfTheAssertion() {
        StepCourt court = Courts.coded(9, 0);
        court.claim(0, 1, 0);
        court.challenge(1);
        court.send(4);
        Check.yes("no word at that time", court.prove(0, 0, 0));
        StepCourt other = Courts.coded(9, 0);
        other.claim(0, 1, other.base() ^ new View().pc(1).a(4).read(1).commitment());
        other.challenge(1);
        other.send(4);
        Check.no("a word that came later", other.prove(0, 0, 0));
    }

    private static void paidAboveThirty() {
        View before = new View().paid(31);
        View after = new View().pc(1).paid(32).trail(View.mix(View.mix(0, 0), 0));
        StepCourt court = new StepCourt();
        court.code(0, 10, 1);
        court.code(1, 13, 0);
        before.pc(1);
        after.pc(2);
        Check.yes("31", dispute(court, 1, before.commitment(), after.commitment()).prove(0, 5, 31));
        StepCourt full = new StepCourt();
        full.code(0, 10, 1);
        full.code(1, 13, 0);
        before.paid(30);
        Check.yes("30 rests", dispute(full, 1, before.commitment(), before.commitment()).prove(0, 5, 30));
        StepCourt below = new StepCourt();
        below.code(0, 10, 1);
        below.code(1, 13, 0);
        before.paid(-1);
        after.paid(0);
        Check.yes("-1", dispute(below, 1, before.commitment(), after.commitment()).prove(0, 5, -1));
    }

    /** The true b is 2, b 5 is given: the cell and the others are those of place 2, the root is made for 5. */
    private static void anotherPlace() {
        for (int op : new int[] {7, 8, 3, 2}) {
            View truth = new View().pc(5).a(9).b(2).cell(2, 6).cell(5, 4);
            long[] others = truth.others(2);
            View given = new View().pc(5).a(9).b(5);
            long agreed = given.commitment(View.rootFrom(5, 6, others));
            View next = new View().pc(6).a(op == 7 ? 6 : op == 3 ? 5 : 9).b(op == 3 ? 9 : op == 2 ? 1 : 5);
            long disputed = next.commitment(View.rootFrom(5, op == 8 ? 9 : 6, others));
            StepCourt court = Courts.coded(10, 6, 0, 0, 0, 0, 0, 0, 0, 0, op, 1, 1, 6, 2, 2, 8, 0, 1, 4, 2, 5, 8, 0);
            court.code(12, 1, 9);
            court.code(13, 2, 2);
            court.code(14, 10, 5);
            Check.same("the true state", court.truth(10), truth.commitment());
            dispute(court, 10, agreed, disputed);
            Check.no("another b", court.prove(0, 3, 1));
            Check.yes("op " + op + " at another place", court.prove(0, 3, 7));
        }
    }

    private static void longsAreAlteredByTheSignedInt() {
        View view = new View().trail(-1L);
        Check.yes("trail", dispute(new StepCourt(), 1, view.commitment(), view.commitment()).prove(0, 6, -1));
        for (int level = 0; level < 3; level++) {
            long[] others = new View().others(0);
            others[level] = ~others[level];
            long commitment = new View().commitment(View.rootFrom(0, 0, others));
            Check.yes("level " + level, dispute(new StepCourt(), 1, commitment, commitment).prove(0, 8 + level, -1));
        }
        View cell = new View().cell(0, MIN);
        Check.yes("cell", dispute(new StepCourt(), 1, cell.commitment(), cell.commitment()).prove(0, 7, MIN));
        View a = new View().a(MIN);
        Check.yes("a", dispute(new StepCourt(), 1, a.commitment(), a.commitment()).prove(0, 2, MIN));
    }

    private static void disputedMustBeReached() {
        StepCourt court = Courts.coded(1, 6);
        court.claim(0, 1, 1L << 40);
        court.challenge(1);
        for (int what = 0; what <= 10; what++) {
            Check.no("what " + what, court.prove(0, what, 1));
        }
        Check.same("running", court.assertion(6), 1);
    }
}
