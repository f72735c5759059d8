import java.util.Map;
import java.util.Random;
import java.util.TreeMap;
import java.util.function.LongSupplier;

/** Long runs of calls on a court and on the model, with the same numbers each time. */
public final class ModelTest {
    private static final int RUNS = 4000;
    // With the code at first and one question behind each move, a court stays within its 512 calls.
    private static final int MOVES = 247;

    private final Random random;
    private final StepCourt court = new StepCourt();
    private final Model model = new Model();
    private final int run;
    private final Map<String, Integer> seen;
    private int part;
    private int change;

    private ModelTest(int run, Map<String, Integer> seen) {
        this.run = run;
        this.seen = seen;
        random = new Random(run);
    }

    public static void main(String[] args) {
        Map<String, Integer> seen = new TreeMap<>();
        for (int run = 0; run < RUNS; run++) {
            new ModelTest(run, seen).play();
        }
        everythingWasSeen(seen);
        Check.finish();
    }

    private static void everythingWasSeen(Map<String, Integer> seen) {
        String[] due = {
            "deposit INDEX", "deposit ARGUMENT", "deposit ROOM", "send ROOM", "claim INDEX", "claim STATE",
            "claim ARGUMENT", "claim ROOM", "challenge INDEX", "challenge STATE", "challenge ROOM", "post INDEX",
            "post STATE", "pick INDEX", "pick STATE", "prove INDEX", "prove STATE", "prove ARGUMENT", "prove 0",
            "prove 1", "draw INDEX", "draw STATE", "draw ARGUMENT", "draw ROOM", "draw answers", "code 0", "code 1",
            "fallen", "stood", "altered proof won", "stood by a proof"};
        for (String each : due) {
            Check.yes("seen often: " + each + " (" + seen.getOrDefault(each, 0) + ")",
                    seen.getOrDefault(each, 0) >= 20);
        }
    }

    private void play() {
        int coded = random.nextInt(17);
        for (int k = 0; k < coded; k++) {
            setCode(k);
        }
        for (int i = 0; i < MOVES; i++) {
            move();
            ask();
        }
    }

    private void note(String what) {
        seen.merge(what, 1, Integer::sum);
    }

    private long same(String call, LongSupplier program, long want) {
        long got;
        try {
            got = program.getAsLong();
        } catch (IndexOutOfBoundsException e) {
            got = Model.INDEX;
        } catch (IllegalStateException e) {
            got = Model.STATE;
        } catch (IllegalArgumentException e) {
            got = Model.ARGUMENT;
        } catch (UnsupportedOperationException e) {
            got = Model.ROOM;
        }
        Check.same("run " + run + " " + call, got, want);
        String name = call.substring(0, call.indexOf('('));
        String[] marks = {"INDEX", "STATE", "ARGUMENT", "ROOM"};
        boolean marked = want >= Model.INDEX && want <= Model.ROOM;
        note(name + " " + (marked ? marks[(int) (want - Model.INDEX)] : want == 0 || want == 1 ? "" + want : "answers"));
        return want;
    }

    private int pickOf(int... choices) {
        return choices[random.nextInt(choices.length)];
    }

    private int party() {
        return random.nextInt(30) == 0 ? pickOf(-1, 4, Integer.MIN_VALUE, Integer.MAX_VALUE) : random.nextInt(4);
    }

    private int gameNumber() {
        int games = model.matches.size();
        return games == 0 || random.nextInt(20) == 0 ? pickOf(-1, 0, 1, 2, 3, Integer.MAX_VALUE) : random.nextInt(games);
    }

    private int number() {
        return random.nextInt(4) == 0
                ? pickOf(-1, Integer.MIN_VALUE, Integer.MAX_VALUE, random.nextInt())
                : random.nextInt(300) - 20;
    }

    private void setCode(int k) {
        int op = random.nextInt(25) == 0 ? pickOf(-1, 14, Integer.MIN_VALUE) : pickOf(0, 1, 1, 2, 2, 3, 4, 5, 6, 7, 8, 8, 9, 9, 10, 11, 12, 13, 13, 13);
        int argument = number();
        same("code(" + k + ", " + op + ", " + argument + ")", () -> court.code(k, op, argument) ? 1 : 0, model.code(k, op, argument));
    }

    /** Each run has a mood, so that the rarer ways are gone often enough. */
    private int moodyKind() {
        int kind = random.nextInt(100);
        boolean often = random.nextInt(4) != 0;
        switch (run % 4) {
            case 0:
                return kind;
            case 1:
                return often && kind >= 17 ? random.nextInt(9) : kind;
            case 2:
                return often && (kind < 4 || kind >= 17 && kind < 69) ? 9 + random.nextInt(8) + pickOf(0, 70, 70, 77) : kind;
            default:
                return often && kind >= 27 ? kindThatIsDue() : kind;
        }
    }

    private int kindThatIsDue() {
        for (Model.Match match : model.matches) {
            if (match.due() != 0 && random.nextInt(6) != 0) {
                return 12 + 15 * match.due();
            }
        }
        return 69;
    }

    private void move() {
        boolean wasOpen = model.open;
        int spans = model.stood.size();
        boolean proven = false;
        int kind = moodyKind();
        if (kind < 4) {
            deposit();
        } else if (kind < 7) {
            send();
        } else if (kind < 9) {
            setCode(random.nextInt(18) - 1);
        } else if (kind < 17) {
            claim();
        } else if (kind < 27) {
            int p = party();
            same("challenge(" + p + ")", () -> court.challenge(p), model.challenge(p));
        } else if (kind < 42) {
            post();
        } else if (kind < 57) {
            int g = gameNumber();
            boolean lower = random.nextBoolean();
            same("pick(" + g + ", " + lower + ")", () -> court.pick(g, lower), model.pick(g, lower));
        } else if (kind < 69) {
            proven = prove();
        } else if (kind < 90) {
            same("block()", court::block, model.block());
        } else {
            int k = random.nextInt(9) == 0 ? pickOf(-1, 30, Integer.MIN_VALUE) : random.nextInt(6);
            same("draw(" + k + ")", () -> court.draw(k), model.draw(k));
        }
        if (model.stood.size() > spans) {
            note("stood");
            if (proven) {
                note("stood by a proof");
            }
        } else if (wasOpen && !model.open) {
            note("fallen");
        }
    }

    private void deposit() {
        int p = party();
        int amount = random.nextInt(6) == 0 ? pickOf(0, -1, 1, 1000, 1001, Integer.MAX_VALUE) : 1 + random.nextInt(400);
        same("deposit(" + p + ", " + amount + ")", () -> court.deposit(p, amount), model.deposit(p, amount));
    }

    private void send() {
        int word = number();
        same("send(" + word + ")", () -> court.send(word), model.send(word));
    }

    private void newAlteration() {
        part = 1 + random.nextInt(10);
        change = pickOf(1, 2, 7, 8, 16, 31, -1, Integer.MIN_VALUE, random.nextInt());
    }

    /** What turns the truth after some steps into the truth, a lie, or the commitment of an altered state. */
    private long twist(int steps) {
        int kind = random.nextInt(6);
        if (kind < 3) {
            return 0;
        }
        if (kind == 3) {
            return random.nextInt(3) == 0 ? model.truth(steps) : random.nextLong();
        }
        if (kind == 4) {
            newAlteration();
            return model.truth(steps) ^ model.given(steps, part, change)[0];
        }
        Long next = part == 0 ? null : model.given(steps - 1, part, change)[1];
        return next == null ? 0 : model.truth(steps) ^ next;
    }

    private void claim() {
        int p = party();
        int steps = random.nextInt(20) == 0 ? pickOf(0, 65, -1, Integer.MAX_VALUE)
                : random.nextInt(3) == 0 ? 1 + random.nextInt(64) : 1 + random.nextInt(5);
        long x = steps >= 1 && steps <= 64 ? twist(steps) : 0;
        same("claim(" + p + ", " + steps + ", " + x + ")", () -> court.claim(p, steps, x), model.claim(p, steps, x));
    }

    private void post() {
        int g = gameNumber();
        boolean there = g >= 0 && g < model.matches.size() && model.matches.get(g).due() == 1;
        int middle = there ? (model.matches.get(g).low + model.matches.get(g).high) / 2 : 0;
        long x = there ? twist(middle) : 0;
        same("post(" + g + ", " + x + ")", () -> court.post(g, x), model.post(g, x));
    }

    private boolean prove() {
        int g = gameNumber();
        int kind = random.nextInt(10);
        if (kind == 0) {
            newAlteration();
        }
        int what = kind == 1 ? pickOf(-1, 11, Integer.MIN_VALUE) : kind < 6 ? 0 : part;
        int x = change;
        boolean won = same("prove(" + g + ", " + what + ", " + x + ")", () -> court.prove(g, what, x) ? 1 : 0,
                model.prove(g, what, x)) == 1;
        if (won && what != 0 && x != 0) {
            note("altered proof won");
        }
        return won;
    }

    private void ask() {
        int k = random.nextInt(18) - 1;
        int g = random.nextInt(5) - 1;
        int j = random.nextInt(68) - 1;
        switch (random.nextInt(8)) {
            case 0 -> same("balance(" + (k % 5) + ")", () -> court.balance(k % 5), model.balance(k % 5));
            case 1 -> same("pot()", court::pot, model.pot);
            case 2 -> same("word(" + j + ")", () -> court.word(j), model.word(j));
            case 3 -> same("truth(" + j + ")", () -> court.truth(j), model.truth(j));
            case 4 -> same("base()", court::base, model.base);
            case 5 -> same("state(" + k + ")", () -> court.state(k), model.state(k));
            case 6 -> same("assertion(" + (k % 9) + ")", () -> court.assertion(k % 9), model.assertion(k % 9));
            default -> same("game(" + g + ", " + (k % 10) + ")", () -> court.game(g, k % 10), model.game(g, k % 10));
        }
    }
}
