/** Promise 2: code. */
public final class CodeTest {
    public static void main(String[] args) {
        Check.sentence("Instruction k of the code becomes op with an argument: true.", CodeTest::becomes);
        Check.sentence("k is not 0 .. 15", CodeTest::places);
        Check.sentence("op is not 0 .. 13", CodeTest::ops);
        Check.sentence("or there has been an assertion.", CodeTest::afterAnAssertion);
        Check.finish();
    }

    private static void becomes() {
        for (int k = 0; k <= 15; k++) {
            StepCourt court = new StepCourt();
            if (k > 0) {
                Check.yes("the way to " + k, court.code(0, 10, k));
            }
            Check.yes("k " + k, court.code(k, 1, 70 + k));
            Check.after(court, k > 0 ? 2 : 1, new View().pc((k + 1) % 16).a(70 + k));
            Check.yes("k " + k + " anew", court.code(k, 2, -70));
            Check.after(court, k > 0 ? 2 : 1, new View().pc((k + 1) % 16).b(-70));
        }
        StepCourt court = new StepCourt();
        for (int op = 0; op <= 13; op++) {
            Check.yes("op " + op, court.code(15, op, Courts.MIN));
            Check.yes("op " + op, court.code(15, op, Courts.MAX));
        }
        court.deposit(0, 5);
        court.block();
        Check.yes("after other calls", court.code(0, 9, 0));
        Check.after(court, 1, new View().pc(1).a(1).read(1));
    }

    private static void places() {
        for (int k : new int[] {-1, 16, 17, 31, -16, Courts.MIN, Courts.MAX}) {
            Check.idle("k " + k, Courts::counter, c -> Check.no("k " + k, c.code(k, 1, 99)));
        }
        Check.yes("k 15", new StepCourt().code(15, 1, 99));
        Check.yes("k 0", new StepCourt().code(0, 1, 99));
    }

    private static void ops() {
        for (int op : new int[] {-1, 14, 15, 16, Courts.MIN, Courts.MAX}) {
            for (int k : new int[] {0, 2, 15}) {
                Check.idle("op " + op, Courts::counter, c -> Check.no("op " + op, c.code(k, op, 99)));
            }
        }
        Check.yes("op 13", new StepCourt().code(0, 13, 0));
        Check.yes("op 0", new StepCourt().code(0, 0, 0));
    }

    private static void afterAnAssertion() {
        Check.idle("while it is there", () -> Courts.asserted(2), c -> Check.no("code", c.code(0, 1, 9)));
        Check.idle("after it stood", CodeTest::stood, c -> Check.no("code", c.code(1, 1, 9)));
        Check.idle("after it fell", CodeTest::fallen, c -> Check.no("code", c.code(0, 1, 9)));
        StepCourt court = Courts.counter();
        Check.fails("a claim that throws", Courts.ARGUMENT, () -> court.claim(0, 0, 0));
        Check.yes("is no assertion", court.code(0, 1, 8));
        Check.after(court, 1, new View().pc(1).a(8));
    }

    private static StepCourt stood() {
        StepCourt court = Courts.counter();
        Courts.standingTruth(court, 0, 1);
        return court;
    }

    private static StepCourt fallen() {
        StepCourt court = Courts.disputed(2);
        Courts.blocks(court, 5);
        Check.noAssertion(court);
        return court;
    }
}
