/** Promise 9: prove. */
public final class ProveTest {
    private static final int MIN = Integer.MIN_VALUE;

    public static void main(String[] args) {
        Check.sentence("it gives of the true state after LOW steps pc, a, b, READ, PAID, TRAIL, the cell b & 7",
                ProveTest::everyStep);
        Check.sentence("for each of three levels from the leaf up, what the other one of the two is in the root's making",
                ProveTest::everyPlace);
        Check.sentence("1 pc, 2 a, 3 b, 4 READ, 5 PAID, 6 TRAIL, 7 the cell, 8, 9, 10 the others of the levels",
                ProveTest::everyPart);
        Check.sentence("is that ^ x", ProveTest::alteredBySignedInts);
        Check.sentence("(the cell is that of the true b)", ProveTest::cellOfTheTrueB);
        Check.sentence("The court makes the root, for the place b & 7 of the b that was given", ProveTest::placeOfTheGivenB);
        Check.sentence("when that is AGREED", ProveTest::agreedIsNeeded);
        Check.sentence("and pc is 0 .. 15", ProveTest::pcOutside);
        Check.sentence("it does the step (with the\nassertion's limit", ProveTest::limit);
        Check.sentence("a word of the inbox that is not there counts as 0)", ProveTest::wordsThatAreNotThere);
        Check.sentence("when PAID is 30: nothing, pc stays.", ProveTest::paidThirty);
        Check.sentence("(a cell that was set in its place)", ProveTest::cellInItsPlace);
        Check.sentence("when that is DISPUTED, the asserter wins: true.", ProveTest::disputedIsReached);
        Check.sentence("when that is DISPUTED", ProveTest::disputedIsNotReached);
        Check.sentence("False, with nothing changed but that the deadline is anew", ProveTest::onlyTheDeadline);
        Check.sentence("IndexOutOfBoundsException (there is no game g)", ProveTest::noGame);
        Check.sentence("IllegalStateException (it isn't running", ProveTest::notRunning);
        Check.sentence("or not that is to be done)", ProveTest::notToBeDone);
        Check.sentence("IllegalArgumentException (what is not 0 .. 10", ProveTest::whatOutside);
        Check.sentence("0: nothing is altered).", ProveTest::nothingIsAltered);
        Check.finish();
    }

    /** A game whose only step is left, from a base and to a claim as given. */
    private static StepCourt dispute(StepCourt court, int steps, long agreed, long disputed) {
        Courts.standing(court, 0, steps, agreed);
        Check.same("claim", court.claim(0, 1, court.truth(1) ^ disputed), disputed);
        Check.same("challenge", court.challenge(1), 0);
        return court;
    }

    private static StepCourt dispute(StepCourt court, int steps, View agreed, View disputed) {
        return dispute(court, steps, agreed.commitment(), disputed.commitment());
    }

    /** A game in which a true step from low on is left. */
    private static StepCourt leftWith(int low, int steps, int... pairs) {
        StepCourt court = Courts.coded(pairs);
        court.send(41);
        court.claim(0, steps, 0);
        court.challenge(1);
        Courts.halve(court, 0, low);
        return court;
    }

    private static void everyStep() {
        for (int op = 0; op <= 13; op++) {
            for (int low = 0; low < 6; low++) {
                int[] code = {1, 6, 2, 13, 8, 0, 1, -9, op, 21, op, 22};
                Check.yes("op " + op + " low " + low, leftWith(low, 6, code).prove(0, 0, 0));
            }
            Check.yes("op " + op + " at first", leftWith(0, 1, op, 5).prove(0, 0, 0));
        }
        int[] counter = {2, 1, 4, 0, 10, 1};
        for (int low : new int[] {0, 1, 31, 32, 62, 63}) {
            Check.yes("low " + low + " of 64", leftWith(low, 64, counter).prove(0, 0, 0));
        }
    }

    private static void everyPlace() {
        for (int place = 0; place < 8; place++) {
            for (int op : new int[] {3, 7, 8}) {
                int[] code = {1, 5, 2, place, 8, 0, 2, 7 - place, 8, 0, 1, 8, 2, place + 8, op, 0};
                Check.yes("op " + op + " place " + place, leftWith(7, 8, code).prove(0, 0, 0));
            }
        }
    }

    private static void everyPart() {
        int[] code = {1, 6, 2, 13, 8, 0, 13, 0, 9, 0, 8, 0};
        StepCourt court = leftWith(5, 6, code);
        for (int what = 1; what <= 10; what++) {
            for (int x : new int[] {1, 8, 16, -1, MIN}) {
                Check.no("what " + what + " x " + x, court.prove(0, what, x));
            }
            Check.yes("x 0 alters nothing of " + what, leftWith(5, 6, code).prove(0, what, 0));
        }
        View rest = new View();
        Check.yes("1 is pc", dispute(new StepCourt(), 1, rest.pc(3), rest).prove(0, 1, 3));
        rest = new View();
        Check.yes("2 is a", dispute(new StepCourt(), 1, rest.a(3), rest).prove(0, 2, 3));
        rest = new View();
        Check.yes("3 is b", dispute(new StepCourt(), 1, rest.b(8), rest).prove(0, 3, 8));
        rest = new View();
        Check.yes("4 is READ", dispute(new StepCourt(), 1, rest.read(3), rest).prove(0, 4, 3));
        rest = new View();
        Check.yes("5 is PAID", dispute(new StepCourt(), 1, rest.paid(3), rest).prove(0, 5, 3));
        rest = new View();
        Check.yes("6 is TRAIL", dispute(new StepCourt(), 1, rest.trail(3), rest).prove(0, 6, 3));
        rest = new View();
        Check.yes("7 is the cell", dispute(new StepCourt(), 1, rest.cell(0, 3), rest).prove(0, 7, 3));
        for (int level = 0; level < 3; level++) {
            Check.yes("level " + level, otherAltered(level, 3).prove(0, 8 + level, 3));
        }
    }

    /** A resting machine about which a root was asserted that has another node beside the way up. */
    private static StepCourt otherAltered(int level, int x) {
        long[] others = new View().others(0);
        others[level] ^= x;
        long commitment = new View().commitment(View.rootFrom(0, 0, others));
        return dispute(new StepCourt(), 1, commitment, commitment);
    }

    private static void alteredBySignedInts() {
        for (int x : new int[] {-1, MIN, Integer.MAX_VALUE}) {
            View trail = new View().trail(x);
            Check.yes("trail", dispute(new StepCourt(), 1, trail, trail).prove(0, 6, x));
            for (int level = 0; level < 3; level++) {
                Check.yes("level " + level, otherAltered(level, x).prove(0, 8 + level, x));
            }
            View cell = new View().cell(0, x);
            Check.yes("cell", dispute(new StepCourt(), 1, cell, cell).prove(0, 7, x));
            View a = new View().a(x);
            Check.yes("a", dispute(new StepCourt(), 1, a, a).prove(0, 2, x));
            View paid = new View().paid(x);
            Check.yes("paid", dispute(new StepCourt(), 1, paid, paid).prove(0, 5, x));
            View read = new View().read(x);
            Check.yes("read", dispute(new StepCourt(), 1, read, read).prove(0, 4, x));
        }
        bitsAreTurned();
    }

    /** Rests at pc 7 with a 6, b 13, cell 5 of 7, 3 words read and 3 payments made. */
    private static StepCourt resting() {
        StepCourt court = Courts.coded(9, 0, 9, 0, 9, 0, 1, 7, 2, 13, 8, 0, 10, 8, 0, 0, 13, 0, 13, 0, 13, 0, 1, 6, 10, 7);
        for (int i = 0; i < 4; i++) {
            court.send(50);
        }
        Check.after(court, 12, rested());
        return court;
    }

    private static View rested() {
        View view = new View().pc(7).a(6).b(13).read(3).paid(3).cell(5, 7);
        for (int i = 0; i < 3; i++) {
            view.trail(View.mix(View.mix(view.trail, 1), 7));
        }
        return view;
    }

    private static void proves(int what, int x, View given) {
        Check.yes("what " + what + " x " + x, dispute(resting(), 12, given, given).prove(0, what, x));
    }

    /** Some bits of x are set in the word, some are not. */
    private static void bitsAreTurned() {
        for (int x : new int[] {10, -6, -1}) {
            if (x == 10) {
                proves(1, x, rested().pc(7 ^ x));
            }
            proves(2, x, rested().a(6 ^ x));
            proves(4, x, rested().read(3 ^ x));
            proves(5, x, rested().paid(3 ^ x));
            proves(6, x, rested().trail(rested().trail ^ x));
            proves(7, x, rested().cell(5, 7 ^ x));
        }
        for (int x : new int[] {8, -8}) {
            proves(3, x, rested().b(13 ^ x));
        }
    }

    /** After 10 steps the machine is at an op at 5, with a 9, b 2, cell 2 of 6 and cell 5 of 4. */
    private static StepCourt atOp(int op, int argument) {
        StepCourt court = Courts.coded(10, 6, 0, 0, 0, 0, 0, 0, 0, 0, op, argument, 1, 6, 2, 2, 8, 0, 1, 4, 2, 5, 8, 0);
        court.code(12, 1, 9);
        court.code(13, 2, 2);
        court.code(14, 10, 5);
        Check.after(court, 10, before());
        return court;
    }

    private static View before() {
        return new View().pc(5).a(9).b(2).cell(2, 6).cell(5, 4);
    }

    /** When b 5 is given, the cell still is the 6 of place 2, and so are the others of the levels. */
    private static void cellOfTheTrueB() {
        long root = View.rootFrom(5, 6, before().others(2));
        long agreed = before().b(5).commitment(root);
        long disputed = before().b(5).a(6).pc(6).commitment(root);
        StepCourt court = dispute(atOp(7, 0), 10, agreed, disputed);
        Check.no("another b", court.prove(0, 3, 1));
        Check.yes("b 5", court.prove(0, 3, 7));
        long ofFive = before().b(5).commitment();
        StepCourt other = dispute(atOp(7, 0), 10, ofFive, before().b(5).a(4).pc(6).commitment());
        Check.no("the cell at 5 is not given", other.prove(0, 3, 7));
    }

    private static void placeOfTheGivenB() {
        for (int given : new int[] {0, 1, 3, 4, 5, 6, 7, 10, -1, MIN}) {
            long root = View.rootFrom(given & 7, 6, before().others(2));
            long agreed = before().b(given).commitment(root);
            long disputed = before().b(given).a(6).pc(6).commitment(root);
            Check.yes("b " + given, dispute(atOp(7, 0), 10, agreed, disputed).prove(0, 3, given ^ 2));
        }
        long inPlace = before().b(5).commitment(View.rootFrom(2, 6, before().others(2)));
        StepCourt court = dispute(atOp(0, 0), 10, inPlace, inPlace);
        Check.no("not for the place of the true b", court.prove(0, 3, 7));
    }

    /** The step forgets what was altered, so that only the commitment before it can tell. */
    private static void agreedIsNeeded() {
        StepCourt setsA = leftWith(0, 1, 1, 6);
        Check.no("an a that is forgotten", setsA.prove(0, 2, 1));
        Check.yes("the true one", setsA.prove(0, 2, 0));
        StepCourt setsB = leftWith(0, 1, 2, 6);
        Check.no("a b that is forgotten", setsB.prove(0, 3, 8));
        StepCourt stores = leftWith(1, 2, 1, 6, 8, 0);
        Check.no("a cell that is forgotten", stores.prove(0, 7, 5));
        StepCourt goes = Courts.coded(10, 3, 10, 3);
        goes.claim(0, 1, 0);
        goes.challenge(1);
        Check.no("a pc that is forgotten", goes.prove(0, 1, 1));
        StepCourt lied = Courts.coded(1, 6);
        Courts.standing(lied, 0, 1, lied.truth(1) ^ 1);
        lied.claim(0, 1, 0);
        lied.challenge(1);
        Check.no("a base that is no truth", lied.prove(0, 0, 0));
    }

    private static void pcOutside() {
        for (int x : new int[] {16, 17, 31, -16, -1, MIN, Integer.MAX_VALUE}) {
            for (int end : new int[] {0, x, x & 15, x + 1, (x + 1) & 15}) {
                View before = new View().pc(x);
                Check.no("pc " + x + " to " + end, dispute(new StepCourt(), 1, before, new View().pc(end)).prove(0, 1, x));
            }
        }
        StepCourt sets = new StepCourt();
        for (int k = 0; k < 16; k++) {
            sets.code(k, 1, 7);
        }
        Check.no("pc 16 of ones that set a", dispute(sets, 16, new View().pc(16).a(7), new View().pc(1).a(7)).prove(0, 1, 16));
        for (int pc = 0; pc <= 15; pc++) {
            View view = new View().pc(pc);
            Check.yes("pc " + pc, dispute(new StepCourt(), 1, view, view).prove(0, 1, pc));
        }
    }

    private static void limit() {
        StepCourt court = Courts.coded(9, 0);
        court.claim(0, 1, 0);
        court.challenge(1);
        court.send(4);
        Check.yes("no word at that time", court.prove(0, 0, 0));
        StepCourt later = Courts.coded(9, 0);
        later.claim(0, 1, later.base() ^ new View().pc(1).a(4).read(1).commitment());
        later.challenge(1);
        later.send(4);
        Check.no("a word that came later", later.prove(0, 0, 0));
        StepCourt waited = Courts.coded(9, 0);
        waited.claim(0, 2, 0);
        waited.challenge(1);
        Courts.halve(waited, 0, 1);
        waited.send(4);
        Check.yes("nor in the steps before LOW", waited.prove(0, 0, 0));
        View before = new View().pc(1).a(5);
        View taken = new View().pc(2).a(31);
        Check.yes("READ 0", dispute(taker(), 1, before.read(0), taken.read(1)).prove(0, 4, 0));
        for (int read : new int[] {1, 2, 59, 60, Integer.MAX_VALUE}) {
            before.read(read);
            Check.yes("READ " + read + " waits", dispute(taker(), 1, before, before).prove(0, 4, read));
            taken.a(0).read(read + 1);
            Check.no("READ " + read + " takes", dispute(taker(), 1, before, taken).prove(0, 4, read));
        }
    }

    /** Sets a to 5, then takes the only word, 31. */
    private static StepCourt taker() {
        StepCourt court = Courts.coded(1, 5, 9, 0);
        court.send(31);
        return court;
    }

    private static void wordsThatAreNotThere() {
        for (int read : new int[] {-1, -7, -60, MIN}) {
            View before = new View().pc(1).a(5).read(read);
            View after = new View().pc(2).a(0).read(read + 1);
            Check.yes("word " + read, dispute(taker(), 1, before, after).prove(0, 4, read));
        }
    }

    /** Goes to 1 and pays. */
    private static StepCourt payer() {
        return Courts.coded(10, 1, 13, 0);
    }

    private static void paidThirty() {
        for (int paid : new int[] {0, 1, 29, 31, -1, MIN}) {
            View before = new View().pc(1).paid(paid);
            View after = new View().pc(2).paid(paid + 1).trail(View.mix(View.mix(0, 0), 0));
            Check.yes("PAID " + paid, dispute(payer(), 1, before, after).prove(0, 5, paid));
        }
        View full = new View().pc(1).paid(30);
        Check.yes("PAID 30", dispute(payer(), 1, full, full).prove(0, 5, 30));
    }

    private static void cellInItsPlace() {
        for (int given : new int[] {2, 5, 10, -1}) {
            long[] others = before().others(2);
            long agreed = before().b(given).commitment(View.rootFrom(given & 7, 6, others));
            long disputed = before().b(given).pc(6).commitment(View.rootFrom(given & 7, 9, others));
            Check.yes("b " + given, dispute(atOp(8, 0), 10, agreed, disputed).prove(0, 3, given ^ 2));
        }
        long[] others = before().others(2);
        long root = View.rootFrom(5, 6, others);
        long agreed = before().b(5).commitment(root);
        long exchanged = before().pc(6).a(5).b(9).commitment(root);
        Check.yes("b exchanged by the step", dispute(atOp(3, 0), 10, agreed, exchanged).prove(0, 3, 7));
        long set = before().pc(6).b(1).commitment(root);
        Check.yes("b set by the step", dispute(atOp(2, 1), 10, agreed, set).prove(0, 3, 7));
    }

    private static void disputedIsReached() {
        StepCourt court = Courts.coded(1, 6);
        long claim = court.claim(0, 1, 0);
        court.challenge(1);
        court.challenge(2);
        court.block();
        Check.yes("proof", court.prove(0, 0, 0));
        Check.game(court, 0, 1, 0, 1, court.base(), claim, 0, 5, 0);
        Check.game(court, 1, 2, 0, 1, court.base(), claim, 0, 4, 3);
        Check.balances(court, 1000, 900, 900, 1000);
        Check.assertion(court, 0, 1, 0, 0, claim, 2, 1);
        Check.same("the true state waits", court.state(1), 0);
        StepCourt middle = Courts.disputed(3);
        middle.post(0, 0);
        middle.pick(0, true);
        Check.yes("a middle that is true", middle.prove(0, 0, 0));
    }

    private static void disputedIsNotReached() {
        StepCourt court = Courts.coded(1, 6);
        court.claim(0, 1, 1L << 40);
        court.challenge(1);
        for (int what = 0; what <= 10; what++) {
            Check.no("what " + what, court.prove(0, what, 1));
        }
        Check.same("running", court.assertion(6), 1);
        StepCourt middle = Courts.disputed(3);
        middle.post(0, 5);
        middle.pick(0, true);
        Check.no("a middle that is no truth", middle.prove(0, 0, 0));
        StepCourt above = Courts.disputed(3);
        above.post(0, 5);
        above.pick(0, false);
        above.post(0, 0);
        above.pick(0, true);
        Check.no("nor is one agreed on", above.prove(0, 0, 0));
    }

    /** Party 0 asserts a step, parties 1 and 2 dispute it. */
    private static StepCourt twoGames() {
        StepCourt court = Courts.disputed(1);
        court.challenge(2);
        return court;
    }

    private static void onlyTheDeadline() {
        for (int what = 1; what <= 10; what++) {
            int part = what;
            Check.idle("what " + what, ProveTest::twoGames, c -> Check.no("proof", c.prove(0, part, 1)));
        }
        StepCourt court = twoGames();
        Courts.blocks(court, 3);
        Check.no("in block 3", court.prove(0, 2, 1));
        Check.game(court, 0, 1, 0, 1, court.base(), court.truth(1), 0, 7, 3);
        Check.game(court, 1, 2, 0, 1, court.base(), court.truth(1), 0, 4, 3);
        Check.balances(court, 900, 900, 900, 1000);
        Check.no("again", court.prove(0, 1, 16));
        Check.yes("then a good one", court.prove(0, 0, 0));
        StepCourt claimed = Courts.counter();
        claimed.claim(0, 1, 7);
        claimed.challenge(1);
        claimed.block();
        Check.no("of a lie", claimed.prove(0, 0, 0));
        Check.same("deadline", claimed.game(0, 6), 5);
    }

    private static void noGame() {
        for (int g : new int[] {-1, 1, 2, 3, Courts.MIN, Courts.MAX}) {
            Check.refused("game " + g, () -> Courts.disputed(1), Courts.INDEX, c -> c.prove(g, 0, 0));
        }
        for (int g = 0; g <= 3; g++) {
            int number = g;
            Check.refused("without an assertion", Courts::counter, Courts.INDEX, c -> c.prove(number, 0, 0));
            Check.refused("without a game", () -> Courts.asserted(1), Courts.INDEX, c -> c.prove(number, 0, 0));
            Check.refused("after it fell", ProveTest::fallen, Courts.INDEX, c -> c.prove(number, 0, 0));
        }
    }

    private static StepCourt fallen() {
        StepCourt court = twoGames();
        Courts.blocks(court, 5);
        return court;
    }

    private static StepCourt lostByTheChallenger() {
        StepCourt court = Courts.posted(2);
        Courts.blocks(court, 5);
        return court;
    }

    private static void notRunning() {
        Check.refused("proven", Courts::proven, Courts.STATE, c -> c.prove(0, 0, 0));
        Check.refused("late", ProveTest::lostByTheChallenger, Courts.STATE, c -> c.prove(0, 0, 0));
    }

    private static StepCourt blockLater(StepCourt court) {
        court.block();
        return court;
    }

    private static void notToBeDone() {
        Check.refused("to post", () -> blockLater(Courts.disputed(2)), Courts.STATE, c -> c.prove(0, 0, 0));
        Check.refused("to pick", () -> blockLater(Courts.posted(2)), Courts.STATE, c -> c.prove(0, 0, 0));
    }

    private static void whatOutside() {
        for (int what : new int[] {-1, 11, 12, Courts.MIN, Courts.MAX}) {
            Check.refused("what " + what, () -> blockLater(Courts.disputed(1)), Courts.ARGUMENT, c -> c.prove(0, what, 0));
        }
        Check.no("what 10", Courts.disputed(1).prove(0, 10, 1));
        Check.yes("what 0", Courts.disputed(1).prove(0, 0, 1));
    }

    private static void nothingIsAltered() {
        for (int x : new int[] {0, 1, -1, MIN, Integer.MAX_VALUE}) {
            Check.yes("x " + x, Courts.disputed(1).prove(0, 0, x));
        }
    }
}
