/** Promise 2 (code), the machine's steps by promise 15 (truth), and promise 17 (state). */
public final class MachineTest {
    private static final int MIN = Integer.MIN_VALUE;

    public static void main(String[] args) {
        codeAnswers();
        codeIsFixedByAnAssertion();
        arithmetic();
        cells();
        jumps();
        taking();
        paying();
        payingEndsAtThirty();
        pcComesRound();
        truthHasBounds();
        truthKeepsTheAssertionsLimit();
        stateTellsAll();
        Check.finish();
    }

    private static void after(StepCourt court, int steps, View view) {
        Check.same("truth " + steps, court.truth(steps), view.commitment());
    }

    private static void codeAnswers() {
        StepCourt court = new StepCourt();
        for (int op = 0; op <= 13; op++) {
            Check.yes("op " + op, court.code(15, op, MIN));
        }
        court.code(15, 0, 0);
        Check.yes("first place", court.code(0, 1, 7));
        after(court, 1, new View().pc(1).a(7));
        Check.no("k -1", court.code(-1, 1, 1));
        Check.no("k 16", court.code(16, 1, 1));
        Check.no("k far", court.code(MIN, 1, 1));
        Check.no("op -1", court.code(0, -1, 1));
        Check.no("op 14", court.code(0, 14, 1));
        after(court, 1, new View().pc(1).a(7));
        Check.yes("anew", court.code(0, 2, 8));
        after(court, 1, new View().pc(1).b(8));
    }

    private static void codeIsFixedByAnAssertion() {
        StepCourt court = Courts.coded(1, 7);
        Check.fails("a claim that throws", Courts.ARGUMENT, () -> court.claim(0, 0, 0));
        Check.yes("is no assertion", court.code(0, 1, 8));
        court.claim(0, 1, 0);
        Check.no("while it is there", court.code(0, 1, 9));
        after(court, 1, new View().pc(1).a(8));
        Courts.blocks(court, 12);
        Check.no("after it stood", court.code(0, 1, 9));
        StepCourt fallen = new StepCourt();
        fallen.claim(0, 1, 1);
        fallen.challenge(1);
        Courts.blocks(fallen, 5);
        Check.same("it fell", fallen.assertion(0), -1);
        Check.no("after it fell", fallen.code(0, 1, 9));
    }

    private static void arithmetic() {
        StepCourt court = Courts.coded(1, MIN, 2, 3, 5, 0, 6, 0, 3, 0, 4, 0, 2, -1, 5, 0);
        after(court, 1, new View().pc(1).a(MIN));
        after(court, 2, new View().pc(2).a(MIN).b(3));
        int less = Integer.MAX_VALUE - 2;
        after(court, 3, new View().pc(3).a(less).b(3));
        after(court, 4, new View().pc(4).a(less * 3).b(3));
        after(court, 5, new View().pc(5).a(3).b(less * 3));
        after(court, 6, new View().pc(6).a(3 + less * 3).b(less * 3));
        after(court, 7, new View().pc(7).a(3 + less * 3).b(-1));
        after(court, 8, new View().pc(8).a(4 + less * 3).b(-1));
        after(court, 9, new View().pc(8).a(4 + less * 3).b(-1));
        after(court, 64, new View().pc(8).a(4 + less * 3).b(-1));
    }

    private static void cells() {
        StepCourt court = Courts.coded(1, 5, 2, -1, 8, 0, 1, 6, 2, 8, 8, 0, 2, 7, 7, 0, 2, 3, 7, 0);
        after(court, 3, new View().pc(3).a(5).b(-1).cell(7, 5));
        after(court, 6, new View().pc(6).a(6).b(8).cell(7, 5).cell(0, 6));
        after(court, 8, new View().pc(8).a(5).b(7).cell(7, 5).cell(0, 6));
        after(court, 10, new View().pc(10).a(0).b(3).cell(7, 5).cell(0, 6));
        for (int k = 0; k < 8; k++) {
            StepCourt each = Courts.coded(1, 9 + k, 2, k, 8, 0);
            after(each, 3, new View().pc(3).a(9 + k).b(k).cell(k, 9 + k));
        }
    }

    private static void jumps() {
        after(Courts.coded(10, 5), 1, new View().pc(5));
        after(Courts.coded(10, -1), 1, new View().pc(15));
        after(Courts.coded(10, 16 + 3), 1, new View().pc(3));
        after(Courts.coded(11, 9), 1, new View().pc(9));
        after(Courts.coded(12, 9), 1, new View().pc(1));
        after(Courts.coded(1, -1, 11, 9), 2, new View().pc(2).a(-1));
        after(Courts.coded(1, 1, 11, 9), 2, new View().pc(2).a(1));
        after(Courts.coded(1, -1, 12, 16 + 9), 2, new View().pc(9).a(-1));
        after(Courts.coded(1, 1, 12, 9), 2, new View().pc(2).a(1));
        after(Courts.coded(1, 1, 12, 9, 11, -2), 3, new View().pc(3).a(1));
        after(Courts.coded(11, -2), 1, new View().pc(14));
    }

    private static void taking() {
        StepCourt court = Courts.coded(9, 0, 9, 0, 9, 0);
        after(court, 1, new View());
        court.send(-4);
        after(court, 1, new View().pc(1).a(-4).read(1));
        after(court, 2, new View().pc(1).a(-4).read(1));
        court.send(11);
        after(court, 2, new View().pc(2).a(11).read(2));
        after(court, 3, new View().pc(2).a(11).read(2));
        Courts.standingTruth(court, 0, 1);
        court.send(12);
        after(court, 0, new View().pc(1).a(-4).read(1));
        after(court, 2, new View().pc(3).a(12).read(3));
    }

    private static void paying() {
        StepCourt court = Courts.coded(1, -7, 2, -2, 13, 0, 13, 0);
        long once = View.mix(View.mix(0, 2), -7);
        long twice = View.mix(View.mix(once, 2), -7);
        after(court, 3, new View().pc(3).a(-7).b(-2).paid(1).trail(once));
        after(court, 4, new View().pc(4).a(-7).b(-2).paid(2).trail(twice));
    }

    private static void payingEndsAtThirty() {
        StepCourt court = Courts.coded(13, 0, 10, 0);
        View view = new View();
        for (int i = 1; i <= 30; i++) {
            view.trail(View.mix(View.mix(view.trail, 0), 0)).paid(i).pc(1);
            after(court, 2 * i - 1, view);
            after(court, 2 * i, view.pc(0));
        }
        after(court, 61, view);
        after(court, 64, view);
        Courts.standingTruth(court, 0, 64);
        Check.same("paid", court.state(4), 30);
        Check.fails("payment 30", Courts.INDEX, () -> court.draw(30));
        Check.fails("payment 29", Courts.ARGUMENT, () -> court.draw(29));
        Courts.standingTruth(court, 0, 64);
        Check.same("still", court.state(4), 30);
        Check.same("pc stays", court.state(0), 0);
    }

    private static void pcComesRound() {
        StepCourt court = new StepCourt();
        for (int k = 0; k < 16; k++) {
            court.code(k, 1, k);
        }
        after(court, 15, new View().pc(15).a(14));
        after(court, 16, new View().pc(0).a(15));
        after(court, 17, new View().pc(1).a(0));
        after(court, 64, new View().pc(0).a(15));
    }

    private static void truthHasBounds() {
        StepCourt court = new StepCourt();
        Check.same("-1", court.truth(-1), 0);
        Check.same("65", court.truth(65), 0);
        Check.same("least", court.truth(MIN), 0);
        Check.same("most", court.truth(Integer.MAX_VALUE), 0);
        Check.same("0", court.truth(0), new View().commitment());
    }

    private static void truthKeepsTheAssertionsLimit() {
        StepCourt court = Courts.coded(9, 0, 9, 0);
        court.send(5);
        court.claim(0, 1, 0);
        court.send(6);
        after(court, 2, new View().pc(1).a(5).read(1));
        after(court, 64, new View().pc(1).a(5).read(1));
        Courts.blocks(court, 12);
        after(court, 1, new View().pc(2).a(6).read(2));
    }

    private static void stateTellsAll() {
        StepCourt court = Courts.coded(1, -7, 2, -3, 8, 0, 13, 0, 9, 0, 2, 12, 8, 0);
        court.send(21);
        Courts.standingTruth(court, 0, 7);
        long[] due = {7, 21, 12, 1, 1, View.mix(View.mix(0, 1), -7), 0, 0, 0, 0, 21, -7, 0, 0};
        for (int what = 0; what < due.length; what++) {
            Check.same("state " + what, court.state(what), due[what]);
        }
        Check.same("state -1", court.state(-1), 0);
        Check.same("state 14", court.state(14), 0);
        Check.same("state least", court.state(MIN), 0);
        Check.same("state most", court.state(Integer.MAX_VALUE), 0);
        for (int k = 0; k < 8; k++) {
            StepCourt each = Courts.coded(1, -9 - k, 2, k, 8, 0);
            Courts.standingTruth(each, 0, 3);
            Check.same("cell " + k, each.state(6 + k), -9 - k);
        }
    }
}
