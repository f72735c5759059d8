/** A court that settles disputes over the state of a machine that is run elsewhere. */
public final class StepCourt {
    private static final int PARTIES = 4;
    private static final int FIRST_BALANCE = 1000;
    private static final int STAKE = 100;
    private static final int MAX_STEPS = 64;
    private static final int MAX_GAMES = 3;
    private static final int MAX_WORDS = 60;
    private static final int MAX_PAYMENTS = 30;
    private static final int CODE_LENGTH = 16;
    private static final int LAST_OP = 13;
    private static final int CELLS = 8;
    private static final int LEVELS = 3;
    private static final int BLOCKS_TO_MOVE = 4;
    private static final int BLOCKS_TO_STAND = 12;
    private static final int DEPOSIT_WORDS = 3;
    private static final int DEPOSIT_MARK = 1;

    private static final int NOTHING = 0;
    private static final int POST = 1;
    private static final int PICK = 2;
    private static final int PROVE = 3;

    private final int[] balances = new int[PARTIES];
    private final Code code = new Code();
    private final Inbox inbox = new Inbox();
    private final Machine trueState = new Machine();
    private final Machine scratch = new Machine();
    private final Payments payments = new Payments();
    private final Proof proof = new Proof();
    private final Assertion assertion = new Assertion();
    private final Game[] games = new Game[MAX_GAMES];
    private int gameCount;
    private int pot;
    private int blockNumber;
    private long base;

    public StepCourt() {
        for (int p = 0; p < PARTIES; p++) {
            balances[p] = FIRST_BALANCE;
        }
        for (int g = 0; g < MAX_GAMES; g++) {
            games[g] = new Game();
        }
        base = trueState.commitment();
    }

    public boolean code(int k, int op, int argument) {
        if (k < 0 || k >= CODE_LENGTH || op < 0 || op > LAST_OP || assertion.everMade) {
            return false;
        }
        code.ops[k] = op;
        code.arguments[k] = argument;
        return true;
    }

    public int deposit(int p, int amount)
            throws IndexOutOfBoundsException, IllegalArgumentException, UnsupportedOperationException {
        requireParty(p);
        if (amount < 1) {
            throw new IllegalArgumentException("the amount is below 1");
        }
        if (balances[p] < amount || inbox.room() < DEPOSIT_WORDS) {
            throw new UnsupportedOperationException("not enough money or room");
        }
        balances[p] -= amount;
        pot += amount;
        inbox.add(DEPOSIT_MARK);
        inbox.add(p);
        inbox.add(amount);
        return inbox.size;
    }

    public int send(int word) throws UnsupportedOperationException {
        if (inbox.room() < 1) {
            throw new UnsupportedOperationException("the inbox is full");
        }
        inbox.add(word);
        return inbox.size;
    }

    public long claim(int p, int steps, long x)
            throws IndexOutOfBoundsException, IllegalStateException, IllegalArgumentException,
            UnsupportedOperationException {
        requireParty(p);
        if (assertion.isOpen) {
            throw new IllegalStateException("there is an assertion");
        }
        if (steps < 1 || steps > MAX_STEPS) {
            throw new IllegalArgumentException("the steps are not 1 to 64");
        }
        takeStake(p);
        assertion.open(p, steps, inbox.size, blockNumber);
        assertion.claim = trueCommitment(steps) ^ x;
        return assertion.claim;
    }

    public int challenge(int p)
            throws IndexOutOfBoundsException, IllegalStateException, UnsupportedOperationException {
        requireParty(p);
        if (!assertion.isOpen || p == assertion.asserter || hasChallenged(p) || gameCount >= MAX_GAMES) {
            throw new IllegalStateException("this party can't begin a game now");
        }
        takeStake(p);
        Game game = games[gameCount];
        game.begin(p, assertion.steps, base, assertion.claim);
        game.setDeadline(blockNumber);
        gameCount++;
        return gameCount - 1;
    }

    public long post(int g, long x) throws IndexOutOfBoundsException, IllegalStateException {
        Game game = gameWithDuty(g, POST);
        game.setMiddle(trueCommitment(game.middleStep()) ^ x);
        game.setDeadline(blockNumber);
        return game.middle;
    }

    public int pick(int g, boolean lower) throws IndexOutOfBoundsException, IllegalStateException {
        Game game = gameWithDuty(g, PICK);
        game.halve(lower);
        game.setDeadline(blockNumber);
        return game.high - game.low;
    }

    public boolean prove(int g, int what, int x)
            throws IndexOutOfBoundsException, IllegalStateException, IllegalArgumentException {
        Game game = gameWithDuty(g, PROVE);
        if (what < 0 || what > Proof.LAST_PART) {
            throw new IllegalArgumentException("there is no such part of a proof");
        }
        game.setDeadline(blockNumber);
        runScratch(game.low, assertion.limit);
        proof.takeFrom(scratch);
        proof.alter(what, x);
        if (!proofLeads(game.agreed, game.disputed)) {
            return false;
        }
        asserterWins(game);
        standIfDue();
        return true;
    }

    public int block() {
        blockNumber++;
        endLateGames();
        standIfDue();
        return blockNumber;
    }

    public int draw(int k)
            throws IndexOutOfBoundsException, IllegalStateException, IllegalArgumentException,
            UnsupportedOperationException {
        if (k < 0 || k >= payments.count) {
            throw new IndexOutOfBoundsException("there is no such payment");
        }
        if (payments.drawn[k] || base != trueState.commitment()) {
            throw new IllegalStateException("the payment can't be drawn now");
        }
        int amount = payments.amounts[k];
        if (amount < 1) {
            throw new IllegalArgumentException("the payment's amount is below 1");
        }
        if (pot < amount) {
            throw new UnsupportedOperationException("the pot has less");
        }
        payments.drawn[k] = true;
        pot -= amount;
        pay(payments.receivers[k], amount);
        return amount;
    }

    public int balance(int p) {
        return isParty(p) ? balances[p] : -1;
    }

    public int pot() {
        return pot;
    }

    public int word(int k) {
        return inbox.at(k);
    }

    public long truth(int j) {
        return j < 0 || j > MAX_STEPS ? 0 : trueCommitment(j);
    }

    public long base() {
        return base;
    }

    public long state(int what) {
        switch (what) {
            case 0: return trueState.pc;
            case 1: return trueState.a;
            case 2: return trueState.b;
            case 3: return trueState.read;
            case 4: return trueState.paid;
            case 5: return trueState.trail;
            default: return trueState.cellOrZero(what - 6L);
        }
    }

    public long assertion(int what) {
        if (!assertion.isOpen) {
            return -1;
        }
        switch (what) {
            case 0: return assertion.asserter;
            case 1: return assertion.steps;
            case 2: return assertion.limit;
            case 3: return assertion.madeAt;
            case 4: return assertion.claim;
            case 5: return gameCount;
            case 6: return countRunning();
            default: return -1;
        }
    }

    public long game(int g, int what) {
        if (!isGame(g)) {
            return -1;
        }
        Game game = games[g];
        switch (what) {
            case 0: return game.challenger;
            case 1: return game.low;
            case 2: return game.high;
            case 3: return game.agreed;
            case 4: return game.disputed;
            case 5: return game.middle;
            case 6: return game.deadline;
            case 7: return game.duty();
            default: return -1;
        }
    }

    private static boolean isParty(int p) {
        return p >= 0 && p < PARTIES;
    }

    private static void requireParty(int p) {
        if (!isParty(p)) {
            throw new IndexOutOfBoundsException("there is no such party");
        }
    }

    private boolean isGame(int g) {
        return g >= 0 && g < gameCount && g < MAX_GAMES;
    }

    private Game gameWithDuty(int g, int duty) {
        if (!isGame(g)) {
            throw new IndexOutOfBoundsException("there is no such game");
        }
        Game game = games[g];
        if (game.duty() != duty) {
            throw new IllegalStateException("that is not to be done in this game now");
        }
        return game;
    }

    private void takeStake(int p) {
        if (balances[p] < STAKE) {
            throw new UnsupportedOperationException("the balance is below the stake");
        }
        balances[p] -= STAKE;
    }

    private void pay(int p, int amount) {
        if (isParty(p)) {
            balances[p] += amount;
        }
    }

    private boolean hasChallenged(int p) {
        for (int g = 0; g < gameCount; g++) {
            if (games[g].challenger == p) {
                return true;
            }
        }
        return false;
    }

    private int countRunning() {
        int running = 0;
        for (int g = 0; g < gameCount; g++) {
            if (games[g].isRunning) {
                running++;
            }
        }
        return running;
    }

    private long trueCommitment(int steps) {
        runScratch(steps, assertion.isOpen ? assertion.limit : inbox.size);
        return scratch.commitment();
    }

    private void runScratch(int steps, int limit) {
        scratch.copyFrom(trueState);
        for (int i = 0; i < steps; i++) {
            scratch.step(code, inbox, limit);
        }
    }

    private boolean proofLeads(long agreed, long disputed) {
        if (proof.commitment() != agreed || !proof.hasPlaceInCode()) {
            return false;
        }
        proof.given.step(code, inbox, assertion.limit);
        return proof.commitment() == disputed;
    }

    private void endLateGames() {
        for (int g = 0; g < gameCount; g++) {
            Game game = games[g];
            if (game.isRunning && game.deadline < blockNumber) {
                if (game.duty() != PICK) {
                    // The assertion falls and takes the other games along.
                    challengerWins(game);
                    return;
                }
                asserterWins(game);
            }
        }
    }

    private void asserterWins(Game game) {
        game.isRunning = false;
        pay(assertion.asserter, STAKE);
    }

    private void challengerWins(Game winner) {
        winner.isRunning = false;
        pay(winner.challenger, 2 * STAKE);
        for (int g = 0; g < gameCount; g++) {
            if (games[g].isRunning) {
                pay(games[g].challenger, STAKE);
            }
        }
        closeAssertion();
    }

    private void standIfDue() {
        if (!assertion.isOpen || assertion.madeAt + BLOCKS_TO_STAND > blockNumber || countRunning() > 0) {
            return;
        }
        pay(assertion.asserter, STAKE);
        base = assertion.claim;
        moveTrueState();
        closeAssertion();
    }

    private void moveTrueState() {
        for (int i = 0; i < assertion.steps; i++) {
            int paidBefore = trueState.paid;
            trueState.step(code, inbox, assertion.limit);
            if (trueState.paid != paidBefore) {
                // PAY leaves a and b alone: they still tell what was paid and to whom.
                payments.add(trueState.receiver(), trueState.a);
            }
        }
    }

    private void closeAssertion() {
        assertion.isOpen = false;
        gameCount = 0;
    }

    /** The functions that commitments are made with. */
    private static final class Mixer {
        private static final long FACTOR = 6364136223846793005L;
        private static final long MASK = 3935559000370003845L;
        private static final long SPREAD = -7723592293110705685L;

        static long mix(long a, long b) {
            long x = (a + b * FACTOR) ^ MASK;
            x ^= x >>> 31;
            x *= SPREAD;
            x ^= x >>> 27;
            return x;
        }

        static long mixLeaf(int cell) {
            return mix(1, cell);
        }

        static long mixPair(long left, long right) {
            return mix(mix(2, left), right);
        }
    }

    private static final class Code {
        private final int[] ops = new int[CODE_LENGTH];
        private final int[] arguments = new int[CODE_LENGTH];
    }

    private static final class Inbox {
        private final int[] words = new int[MAX_WORDS];
        private int size;

        int room() {
            return MAX_WORDS - size;
        }

        void add(int value) {
            if (size < MAX_WORDS) {
                words[size] = value;
                size++;
            }
        }

        int at(int k) {
            return k >= 0 && k < size && k < MAX_WORDS ? words[k] : 0;
        }
    }

    /** A state of the machine, and what a step makes of it. */
    private static final class Machine {
        private static final int REST = 0;
        private static final int SET_A = 1;
        private static final int SET_B = 2;
        private static final int EXCHANGE = 3;
        private static final int ADD = 4;
        private static final int SUBTRACT = 5;
        private static final int MULTIPLY = 6;
        private static final int LOAD = 7;
        private static final int STORE = 8;
        private static final int TAKE = 9;
        private static final int GO = 10;
        private static final int GO_IF_ZERO = 11;
        private static final int GO_IF_BELOW = 12;
        private static final int PAY = 13;

        private final int[] cells = new int[CELLS];
        // Node 1 is the root, node i is made of the nodes 2i and 2i + 1, the leaves are the last eight.
        private final long[] tree = new long[2 * CELLS];
        private int pc;
        private int a;
        private int b;
        private int read;
        private int paid;
        private long trail;

        void copyFrom(Machine other) {
            System.arraycopy(other.cells, 0, cells, 0, CELLS);
            pc = other.pc;
            a = other.a;
            b = other.b;
            read = other.read;
            paid = other.paid;
            trail = other.trail;
        }

        int cellPlace() {
            return b & (CELLS - 1);
        }

        int receiver() {
            return b & (PARTIES - 1);
        }

        long cellOrZero(long k) {
            return k >= 0 && k < CELLS ? cells[(int) k] : 0;
        }

        void step(Code code, Inbox inbox, int limit) {
            int here = pc & (CODE_LENGTH - 1);
            int argument = code.arguments[here];
            int next = (here + 1) & (CODE_LENGTH - 1);
            int target = argument & (CODE_LENGTH - 1);
            switch (code.ops[here]) {
                case REST: next = here; break;
                case SET_A: a = argument; break;
                case SET_B: b = argument; break;
                case EXCHANGE: exchange(); break;
                case ADD: a = a + b; break;
                case SUBTRACT: a = a - b; break;
                case MULTIPLY: a = a * b; break;
                case LOAD: a = cells[cellPlace()]; break;
                case STORE: cells[cellPlace()] = a; break;
                case TAKE: next = takeWord(inbox, limit) ? next : here; break;
                case GO: next = target; break;
                case GO_IF_ZERO: next = a == 0 ? target : next; break;
                case GO_IF_BELOW: next = a < 0 ? target : next; break;
                case PAY: next = makePayment() ? next : here; break;
                default: break;
            }
            pc = next;
        }

        private void exchange() {
            int held = a;
            a = b;
            b = held;
        }

        private boolean takeWord(Inbox inbox, int limit) {
            if (read >= limit) {
                return false;
            }
            a = inbox.at(read);
            read++;
            return true;
        }

        private boolean makePayment() {
            if (paid == MAX_PAYMENTS) {
                return false;
            }
            trail = Mixer.mix(Mixer.mix(trail, receiver()), a);
            paid++;
            return true;
        }

        void growTree() {
            for (int i = 0; i < CELLS; i++) {
                tree[CELLS + i] = Mixer.mixLeaf(cells[i]);
            }
            for (int i = CELLS - 1; i >= 1; i--) {
                tree[i] = Mixer.mixPair(tree[2 * i], tree[2 * i + 1]);
            }
        }

        long commitment() {
            growTree();
            return commitmentWith(tree[1]);
        }

        long commitmentWith(long root) {
            long x = Mixer.mix(0, pc);
            x = Mixer.mix(x, a);
            x = Mixer.mix(x, b);
            x = Mixer.mix(x, read);
            x = Mixer.mix(x, paid);
            x = Mixer.mix(x, trail);
            return Mixer.mix(x, root);
        }
    }

    /** What the asserter gives of a state: its words, one cell, and the cell's way up to the root. */
    private static final class Proof {
        private static final int FIRST_LEVEL_PART = 8;
        private static final int LAST_PART = 10;

        // Of its cells only the one at the given place is ever looked at or set.
        private final Machine given = new Machine();
        private final long[] others = new long[LEVELS];
        private int cell;
        private int place;

        void takeFrom(Machine state) {
            given.copyFrom(state);
            int truePlace = state.cellPlace();
            cell = state.cells[truePlace];
            state.growTree();
            for (int level = 0; level < LEVELS; level++) {
                others[level] = state.tree[((CELLS + truePlace) >> level) ^ 1];
            }
        }

        void alter(int what, int x) {
            switch (what) {
                case 1: given.pc ^= x; break;
                case 2: given.a ^= x; break;
                case 3: given.b ^= x; break;
                case 4: given.read ^= x; break;
                case 5: given.paid ^= x; break;
                case 6: given.trail ^= x; break;
                case 7: cell ^= x; break;
                default: alterOther(what - FIRST_LEVEL_PART, x); break;
            }
            // The step may exchange a and b, but the cell stays at the place that was given.
            place = given.cellPlace();
            given.cells[place] = cell;
        }

        private void alterOther(int level, int x) {
            if (level >= 0 && level < LEVELS) {
                others[level] ^= x;
            }
        }

        boolean hasPlaceInCode() {
            return given.pc >= 0 && given.pc < CODE_LENGTH;
        }

        long commitment() {
            long node = Mixer.mixLeaf(given.cells[place]);
            for (int level = 0; level < LEVELS; level++) {
                boolean isRight = ((place >> level) & 1) == 1;
                node = isRight ? Mixer.mixPair(others[level], node) : Mixer.mixPair(node, others[level]);
            }
            return given.commitmentWith(node);
        }
    }

    /** The payments that the true state has made. */
    private static final class Payments {
        private final int[] receivers = new int[MAX_PAYMENTS];
        private final int[] amounts = new int[MAX_PAYMENTS];
        private final boolean[] drawn = new boolean[MAX_PAYMENTS];
        private int count;

        void add(int receiver, int amount) {
            if (count < MAX_PAYMENTS) {
                receivers[count] = receiver;
                amounts[count] = amount;
                count++;
            }
        }
    }

    private static final class Assertion {
        private boolean isOpen;
        private boolean everMade;
        private int asserter;
        private int steps;
        private int limit;
        private int madeAt;
        private long claim;

        void open(int p, int stepCount, int inboxSize, int blockNow) {
            isOpen = true;
            everMade = true;
            asserter = p;
            steps = stepCount;
            limit = inboxSize;
            madeAt = blockNow;
        }
    }

    private static final class Game {
        private int challenger;
        private int low;
        private int high;
        private long agreed;
        private long disputed;
        // 0 without a middle; a posted middle may be 0 as well, so hasMiddle tells them apart.
        private long middle;
        private boolean hasMiddle;
        private int deadline;
        private boolean isRunning;

        void begin(int p, int steps, long agreedAtFirst, long disputedAtFirst) {
            challenger = p;
            low = 0;
            high = steps;
            agreed = agreedAtFirst;
            disputed = disputedAtFirst;
            clearMiddle();
            isRunning = true;
        }

        void setDeadline(int blockNow) {
            deadline = blockNow + BLOCKS_TO_MOVE;
        }

        int middleStep() {
            return (low + high) / 2;
        }

        void setMiddle(long commitment) {
            middle = commitment;
            hasMiddle = true;
        }

        private void clearMiddle() {
            middle = 0;
            hasMiddle = false;
        }

        void halve(boolean lower) {
            if (lower) {
                high = middleStep();
                disputed = middle;
            } else {
                low = middleStep();
                agreed = middle;
            }
            clearMiddle();
        }

        int duty() {
            if (!isRunning) {
                return NOTHING;
            }
            if (high - low <= 1) {
                return PROVE;
            }
            return hasMiddle ? PICK : POST;
        }
    }
}
