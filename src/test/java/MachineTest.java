/** The Terms' words on the machine, its steps and the commitment of its state. */
public final class MachineTest {
    private static final int MIN = Integer.MIN_VALUE;
    private static final int MAX = Integer.MAX_VALUE;

    public static void main(String[] args) {
        Check.sentence("x ^= x >>> 27 (all wrapping)", MachineTest::mixing);
        Check.sentence("LEAF i of a state is MIX(1, cell i)", MachineTest::leaves);
        Check.sentence("The COMMITMENT of a state is", MachineTest::commitment);
        Check.sentence("pc becomes the next one (0 after 15)", MachineTest::nextAfterFifteen);
        Check.sentence("(sums and products wrap)", MachineTest::wrapping);
        Check.sentence("0 REST: nothing, pc stays.", MachineTest::rest);
        Check.sentence("1 a = argument. 2 b = argument.", MachineTest::arguments);
        Check.sentence("3 a and b are exchanged.", MachineTest::exchange);
        Check.sentence("4 a = a + b. 5 a = a - b. 6 a = a * b.", MachineTest::arithmetic);
        Check.sentence("7 a = cell b & 7.", MachineTest::load);
        Check.sentence("8 cell b & 7 = a.", MachineTest::store);
        Check.sentence("9 TAKE: if READ is below the limit, a = word READ of the inbox, and READ grows by 1",
                MachineTest::take);
        Check.sentence("otherwise nothing, pc stays.", MachineTest::takeAtTheLimit);
        Check.sentence("10 GO: pc = argument & 15.", MachineTest::go);
        Check.sentence("11 pc = argument & 15 if a is 0.", MachineTest::goIfZero);
        Check.sentence("12 pc = argument & 15 if a is below 0.", MachineTest::goIfBelow);
        Check.sentence("13 PAY: TRAIL = MIX(MIX(TRAIL, b & 3), a), PAID grows by 1", MachineTest::pay);
        Check.sentence("a payment of a to party b & 3", MachineTest::receivers);
        Check.sentence("when PAID is 30: nothing, pc stays.", MachineTest::payAtThirty);
        Check.finish();
    }

    /** The numbers were worked out by other means than Java's. */
    private static void mixing() {
        StepCourt court = Courts.coded(1, -1, 2, MIN + 5, 8, 0, 13, 0, 9, 0);
        court.send(MAX);
        Check.same("truth 1", court.truth(1), -2755493894185208438L);
        Check.same("truth 2", court.truth(2), -8914719364641039111L);
        Check.same("truth 3", court.truth(3), -6255642704115083508L);
        Check.same("truth 4", court.truth(4), 1953729550623020796L);
        Check.same("truth 5", court.truth(5), 3468744709855358833L);
        Courts.standingTruth(court, 0, 4);
        Check.same("trail", court.state(5), 4328253111041383019L);
    }

    private static void leaves() {
        for (int k = 0; k < 8; k++) {
            StepCourt court = Courts.coded(1, -9 - k, 2, k, 8, 0, 1, 5 + k, 2, 7 - k, 8, 0);
            Check.after(court, 3, new View().pc(3).a(-9 - k).b(k).cell(k, -9 - k));
            Check.after(court, 6, new View().pc(6).a(5 + k).b(7 - k).cell(k, -9 - k).cell(7 - k, 5 + k));
        }
    }

    private static void commitment() {
        StepCourt court = Courts.coded(1, -7, 2, -3, 13, 0, 9, 0, 3, 0);
        court.send(21);
        long trail = View.mix(View.mix(0, 1), -7);
        Check.after(court, 0, new View());
        Check.after(court, 1, new View().pc(1).a(-7));
        Check.after(court, 2, new View().pc(2).a(-7).b(-3));
        Check.after(court, 3, new View().pc(3).a(-7).b(-3).paid(1).trail(trail));
        Check.after(court, 4, new View().pc(4).a(21).b(-3).read(1).paid(1).trail(trail));
        Check.after(court, 5, new View().pc(5).a(-3).b(21).read(1).paid(1).trail(trail));
    }

    /** Instruction 0 goes to 14, where one that does nothing here goes on to 15. */
    private static StepCourt atFifteen(int op, int argument) {
        StepCourt court = Courts.coded(10, 14);
        court.code(14, 12, 5);
        court.code(15, op, argument);
        court.send(4);
        return court;
    }

    private static void nextAfterFifteen() {
        for (int op = 1; op <= 8; op++) {
            View view = new View().a(op == 1 ? 3 : 0).b(op == 2 ? 3 : 0);
            Check.after(atFifteen(op, 3), 2, new View().pc(15));
            Check.after(atFifteen(op, 3), 3, view.pc(0));
        }
        Check.after(atFifteen(9, 3), 3, new View().a(4).read(1));
        Check.after(atFifteen(12, 3), 3, new View());
        Check.after(atFifteen(13, 3), 3, new View().paid(1).trail(View.mix(View.mix(0, 0), 0)));
        Check.after(atFifteen(0, 3), 3, new View().pc(15));
        StepCourt round = new StepCourt();
        for (int k = 0; k < 16; k++) {
            round.code(k, 1, k);
        }
        for (int j = 1; j <= 64; j++) {
            Check.after(round, j, new View().pc(j % 16).a((j - 1) % 16));
        }
    }

    private static void ends(int op, int a, int b, int due) {
        Check.after(Courts.coded(1, a, 2, b, op, 0), 3, new View().pc(3).a(due).b(b));
    }

    private static void wrapping() {
        ends(4, MAX, 1, MIN);
        ends(4, MAX, MAX, -2);
        ends(4, MIN, -1, MAX);
        ends(4, MIN, MIN, 0);
        ends(5, MIN, 1, MAX);
        ends(5, MAX, -1, MIN);
        ends(5, 0, MIN, MIN);
        ends(6, MIN, -1, MIN);
        ends(6, MAX, MAX, 1);
        ends(6, MAX, 2, -2);
        ends(6, 65536, 65536, 0);
        ends(6, 46341, 46341, -2147479015);
    }

    private static void rest() {
        StepCourt court = Courts.coded(1, 5, 0, 9, 1, 6);
        for (int j = 1; j <= 64; j++) {
            Check.after(court, j, new View().pc(1).a(5));
        }
    }

    private static void arguments() {
        for (int argument : new int[] {0, 1, -1, 16, MIN, MAX}) {
            Check.after(Courts.coded(1, argument), 1, new View().pc(1).a(argument));
            Check.after(Courts.coded(2, argument), 1, new View().pc(1).b(argument));
        }
    }

    private static void exchange() {
        StepCourt court = Courts.coded(1, MIN, 2, 6, 3, 1, 3, 1);
        Check.after(court, 3, new View().pc(3).a(6).b(MIN));
        Check.after(court, 4, new View().pc(4).a(MIN).b(6));
    }

    private static void arithmetic() {
        ends(4, 7, 5, 12);
        ends(4, 7, -9, -2);
        ends(5, 7, 5, 2);
        ends(5, 5, 7, -2);
        ends(6, 7, 5, 35);
        ends(6, 7, -5, -35);
        ends(6, 7, 0, 0);
    }

    private static void load() {
        int[][] places = {{0, 0}, {7, 7}, {8, 0}, {15, 7}, {-1, 7}, {-8, 0}, {MIN, 0}, {MAX, 7}, {MIN + 3, 3}};
        for (int[] each : places) {
            StepCourt court = Courts.coded(1, 44, 2, each[1], 8, 0, 1, 5, 2, each[0], 7, 0);
            Check.after(court, 6, new View().pc(6).a(44).b(each[0]).cell(each[1], 44));
            StepCourt empty = Courts.coded(1, 44, 2, each[1] ^ 1, 8, 0, 1, 5, 2, each[0], 7, 0);
            Check.after(empty, 6, new View().pc(6).a(0).b(each[0]).cell(each[1] ^ 1, 44));
        }
    }

    private static void store() {
        int[][] places = {{0, 0}, {7, 7}, {8, 0}, {15, 7}, {-1, 7}, {-8, 0}, {MIN, 0}, {MAX, 7}, {MIN + 3, 3}};
        for (int[] each : places) {
            StepCourt court = Courts.coded(1, MIN, 2, each[0], 8, 0, 1, 0, 8, 0);
            Check.after(court, 3, new View().pc(3).a(MIN).b(each[0]).cell(each[1], MIN));
            Check.after(court, 5, new View().pc(5).b(each[0]));
        }
    }

    /** Takes and goes back. */
    private static StepCourt taker(int... words) {
        StepCourt court = Courts.coded(9, 3, 10, 0);
        for (int word : words) {
            court.send(word);
        }
        return court;
    }

    private static void take() {
        StepCourt court = taker(-4, 0, MIN);
        Check.after(court, 1, new View().pc(1).a(-4).read(1));
        Check.after(court, 3, new View().pc(1).a(0).read(2));
        Check.after(court, 5, new View().pc(1).a(MIN).read(3));
        StepCourt full = taker();
        for (int i = 1; i <= 60; i++) {
            full.send(100 + i);
        }
        Courts.standingTruth(full, 0, 64);
        Check.same("read by 64 steps", full.state(3), 32);
        Courts.standingTruth(full, 0, 56);
        Check.same("the last of 60 words", full.state(1), 160);
        Check.same("read", full.state(3), 60);
    }

    private static void takeAtTheLimit() {
        StepCourt empty = taker();
        Check.after(empty, 1, new View());
        Check.after(empty, 64, new View());
        StepCourt court = taker(8);
        Check.after(court, 2, new View().a(8).read(1));
        Check.after(court, 3, new View().a(8).read(1));
        Check.after(court, 64, new View().a(8).read(1));
        court.claim(0, 64, 0);
        court.send(9);
        Check.after(court, 64, new View().a(8).read(1));
        Courts.blocks(court, 12);
        Check.after(court, 0, new View().a(8).read(1));
        Check.after(court, 1, new View().pc(1).a(9).read(2));
    }

    private static void go() {
        int[][] targets = {{0, 0}, {5, 5}, {15, 15}, {16, 0}, {19, 3}, {-1, 15}, {MIN, 0}, {MAX, 15}};
        for (int[] each : targets) {
            Check.after(Courts.coded(10, each[0]), 1, new View().pc(each[1]));
            Check.after(Courts.coded(1, 7, 10, each[0]), 2, new View().pc(each[1]).a(7));
        }
    }

    private static void jumpsFrom(int op, int a, boolean due) {
        View view = new View().a(a);
        Check.after(Courts.coded(1, a, op, 9), 2, view.pc(due ? 9 : 2));
        Check.after(Courts.coded(1, a, op, -2), 2, view.pc(due ? 14 : 2));
        Check.after(Courts.coded(1, a, op, 16), 2, view.pc(due ? 0 : 2));
    }

    private static void goIfZero() {
        jumpsFrom(11, 0, true);
        for (int a : new int[] {1, -1, 16, MIN, MAX}) {
            jumpsFrom(11, a, false);
        }
    }

    private static void goIfBelow() {
        jumpsFrom(12, -1, true);
        jumpsFrom(12, MIN, true);
        for (int a : new int[] {0, 1, MAX}) {
            jumpsFrom(12, a, false);
        }
    }

    private static void pay() {
        for (int a : new int[] {0, 1, -7, MIN, MAX}) {
            StepCourt court = Courts.coded(1, a, 2, -2, 13, 0, 13, 0);
            long once = View.mix(View.mix(0, 2), a);
            long twice = View.mix(View.mix(once, 2), a);
            Check.after(court, 3, new View().pc(3).a(a).b(-2).paid(1).trail(once));
            Check.after(court, 4, new View().pc(4).a(a).b(-2).paid(2).trail(twice));
        }
    }

    private static void receivers() {
        int[][] parties = {{0, 0}, {3, 3}, {4, 0}, {5, 1}, {-1, 3}, {-2, 2}, {MIN, 0}, {MAX, 3}};
        for (int[] each : parties) {
            StepCourt court = Courts.coded(1, 25, 2, each[0], 13, 0);
            long trail = View.mix(View.mix(0, each[1]), 25);
            Check.after(court, 3, new View().pc(3).a(25).b(each[0]).paid(1).trail(trail));
            court.deposit(1, 25);
            Courts.standingTruth(court, 2, 3);
            court.draw(0);
            for (int p = 0; p < 4; p++) {
                Check.same("b " + each[0] + ", balance " + p, court.balance(p),
                        1000 - (p == 1 ? 25 : 0) + (p == each[1] ? 25 : 0));
            }
        }
    }

    private static void payAtThirty() {
        StepCourt court = Courts.coded(13, 0, 10, 0);
        View view = new View();
        for (int i = 1; i <= 30; i++) {
            view.trail(View.mix(View.mix(view.trail, 0), 0)).paid(i).pc(1);
            Check.after(court, 2 * i - 1, view);
            Check.after(court, 2 * i, view.pc(0));
        }
        for (int j = 61; j <= 64; j++) {
            Check.after(court, j, view);
        }
        Courts.standingTruth(court, 0, 64);
        Check.same("paid", court.state(4), 30);
        Check.after(court, 1, view);
        Check.fails("payment 29", Courts.ARGUMENT, () -> court.draw(29));
        Check.fails("payment 30", Courts.INDEX, () -> court.draw(30));
        Courts.standingTruth(court, 0, 64);
        Check.same("pc then", court.state(0), 0);
        Check.same("paid then", court.state(4), 30);
        Check.same("trail then", court.state(5), view.trail);
        Check.fails("payment 30 then", Courts.INDEX, () -> court.draw(30));
    }
}
