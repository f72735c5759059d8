/** Promise 4: send. */
public final class SendTest {
    public static void main(String[] args) {
        Check.sentence("A word comes into the inbox", SendTest::comes);
        Check.sentence("how many words are in it.", SendTest::answers);
        Check.sentence("UnsupportedOperationException when there are 60.", SendTest::full);
        Check.finish();
    }

    private static void comes() {
        int[] words = {5, 0, -1, Courts.MIN, Courts.MAX};
        StepCourt court = new StepCourt();
        for (int word : words) {
            court.send(word);
        }
        for (int k = 0; k < words.length; k++) {
            Check.same("word " + k, court.word(k), words[k]);
        }
        Check.same("it costs nothing", court.pot(), 0);
        Check.balances(court, 1000, 1000, 1000, 1000);
    }

    private static void answers() {
        StepCourt court = new StepCourt();
        Check.same("first", court.send(0), 1);
        Check.same("second", court.send(0), 2);
        court.deposit(0, 1);
        Check.same("after a deposit", court.send(0), 6);
        court.claim(0, 1, 0);
        Check.same("while there is an assertion", court.send(0), 7);
    }

    private static void full() {
        StepCourt court = Courts.withWords(59);
        Check.same("with 59", court.send(-7), 60);
        Check.same("the last word", court.word(59), -7);
        for (int word : new int[] {0, 1, -1, Courts.MAX}) {
            Check.refused("with 60", () -> Courts.withWords(60), Courts.ROOM, c -> c.send(word));
        }
        StepCourt taken = Courts.coded(9, 0);
        for (int i = 1; i <= 60; i++) {
            taken.send(i);
        }
        Courts.standingTruth(taken, 0, 1);
        Check.same("read", taken.state(3), 1);
        Check.fails("a word that was read has its room still", Courts.ROOM, () -> taken.send(1));
    }
}
