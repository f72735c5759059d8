import java.util.ArrayList;
import java.util.HashSet;
import java.util.List;
import java.util.Set;

/**
 * The document once more, written as differently from the program as it goes: the true state is
 * made anew from the first one whenever it is asked for, by all the spans that have stood.
 * A call answers a long, or one of the marks below where the document asks for an exception.
 */
final class Model {
    static final long INDEX = 0x7e57_0000_0000_0001L;
    static final long STATE = INDEX + 1;
    static final long ARGUMENT = INDEX + 2;
    static final long ROOM = INDEX + 3;

    record Span(int steps, int limit) {
    }

    record Payment(int party, int amount) {
    }

    static final class Match {
        int challenger;
        int low;
        int high;
        long agreed;
        long disputed;
        Long middle;
        int latest;
        boolean over;

        int due() {
            return over ? 0 : high - low == 1 ? 3 : middle == null ? 1 : 2;
        }

        long ask(int what) {
            long[] all = {challenger, low, high, agreed, disputed, middle == null ? 0 : middle, latest + 4, due()};
            return what >= 0 && what < all.length ? all[what] : -1;
        }
    }

    final int[][] code = new int[16][2];
    final List<Integer> words = new ArrayList<>();
    final List<Span> stood = new ArrayList<>();
    final Set<Integer> drawn = new HashSet<>();
    final int[] money = {1000, 1000, 1000, 1000};
    int pot;
    int now;
    long base = new View().commitment();
    boolean locked;

    boolean open;
    int asserter;
    int steps;
    int limit;
    int made;
    long claim;
    final List<Match> matches = new ArrayList<>();

    // --- the machine

    private void step(View v, int most, List<Payment> log) {
        int op = code[v.pc][0];
        int argument = code[v.pc][1];
        boolean stuck = op == 0 || op == 9 && v.read >= most || op == 13 && v.paid == 30;
        if (stuck) {
            return;
        }
        boolean jump = op == 10 || op == 11 && v.a == 0 || op == 12 && v.a < 0;
        v.pc = jump ? Math.floorMod(argument, 16) : (v.pc + 1) % 16;
        int cell = Math.floorMod(v.b, 8);
        int oldA = v.a;
        if (op == 1) {
            v.a = argument;
        } else if (op == 2) {
            v.b = argument;
        } else if (op == 3) {
            v.a = v.b;
            v.b = oldA;
        } else if (op == 4) {
            v.a = (int) ((long) oldA + v.b);
        } else if (op == 5) {
            v.a = (int) ((long) oldA - v.b);
        } else if (op == 6) {
            v.a = (int) ((long) oldA * v.b);
        } else if (op == 7) {
            v.a = v.cells[cell];
        } else if (op == 8) {
            v.cells[cell] = oldA;
        } else if (op == 9) {
            v.a = v.read >= 0 && v.read < words.size() ? words.get(v.read) : 0;
            v.read = v.read + 1;
        } else if (op == 13) {
            int party = Math.floorMod(v.b, 4);
            v.trail = View.mix(View.mix(v.trail, party), v.a);
            v.paid = v.paid + 1;
            log.add(new Payment(party, v.a));
        }
    }

    View truthView(List<Payment> log) {
        View v = new View();
        for (Span span : stood) {
            for (int i = 0; i < span.steps(); i++) {
                step(v, span.limit(), log);
            }
        }
        return v;
    }

    View viewAfter(int j) {
        View v = truthView(new ArrayList<>());
        for (int i = 0; i < j; i++) {
            step(v, open ? limit : words.size(), new ArrayList<>());
        }
        return v;
    }

    // --- the calls

    long code(int k, int op, int argument) {
        if (locked || k != Math.floorMod(k, 16) || op != Math.floorMod(op, 14)) {
            return 0;
        }
        code[k] = new int[] {op, argument};
        return 1;
    }

    private static boolean nobody(int p) {
        return p != Math.floorMod(p, 4);
    }

    long deposit(int p, int amount) {
        if (nobody(p)) {
            return INDEX;
        }
        if (amount <= 0) {
            return ARGUMENT;
        }
        if (amount > money[p] || words.size() > 57) {
            return ROOM;
        }
        money[p] -= amount;
        pot += amount;
        words.addAll(List.of(1, p, amount));
        return words.size();
    }

    long send(int word) {
        if (words.size() == 60) {
            return ROOM;
        }
        words.add(word);
        return words.size();
    }

    long claim(int p, int count, long x) {
        if (nobody(p)) {
            return INDEX;
        }
        if (open) {
            return STATE;
        }
        if (count <= 0 || count >= 65) {
            return ARGUMENT;
        }
        if (money[p] < 100) {
            return ROOM;
        }
        claim = viewAfter(count).commitment() ^ x;
        money[p] -= 100;
        open = true;
        locked = true;
        asserter = p;
        steps = count;
        limit = words.size();
        made = now;
        return claim;
    }

    long challenge(int p) {
        if (nobody(p)) {
            return INDEX;
        }
        if (!open || p == asserter || matches.stream().anyMatch(m -> m.challenger == p)) {
            return STATE;
        }
        if (money[p] < 100) {
            return ROOM;
        }
        money[p] -= 100;
        Match m = new Match();
        m.challenger = p;
        m.high = steps;
        m.agreed = base;
        m.disputed = claim;
        m.latest = now;
        matches.add(m);
        return matches.size() - 1;
    }

    private long hinder(int g, int due) {
        if (g < 0 || g >= matches.size()) {
            return INDEX;
        }
        return matches.get(g).due() == due ? 0 : STATE;
    }

    long post(int g, long x) {
        if (hinder(g, 1) != 0) {
            return hinder(g, 1);
        }
        Match m = matches.get(g);
        m.middle = viewAfter((m.low + m.high) / 2).commitment() ^ x;
        m.latest = now;
        return m.middle;
    }

    long pick(int g, boolean lower) {
        if (hinder(g, 2) != 0) {
            return hinder(g, 2);
        }
        Match m = matches.get(g);
        int half = (m.low + m.high) / 2;
        if (lower) {
            m.high = half;
            m.disputed = m.middle;
        } else {
            m.low = half;
            m.agreed = m.middle;
        }
        m.middle = null;
        m.latest = now;
        return m.high - m.low;
    }

    /** The commitments before and after the step from what is given; none after it when pc is wrong. */
    Long[] given(int low, int what, int x) {
        View v = viewAfter(low);
        long[] others = v.others(v.b & 7);
        int cell = v.cells[v.b & 7] ^ (what == 7 ? x : 0);
        v.pc ^= what == 1 ? x : 0;
        v.a ^= what == 2 ? x : 0;
        v.b ^= what == 3 ? x : 0;
        v.read ^= what == 4 ? x : 0;
        v.paid ^= what == 5 ? x : 0;
        v.trail ^= what == 6 ? (long) x : 0L;
        if (what >= 8) {
            others[what - 8] ^= (long) x;
        }
        int place = v.b & 7;
        long before = v.commitment(View.rootFrom(place, cell, others));
        if (v.pc < 0 || v.pc > 15) {
            return new Long[] {before, null};
        }
        v.cells[place] = cell;
        step(v, open ? limit : words.size(), new ArrayList<>());
        return new Long[] {before, v.commitment(View.rootFrom(place, v.cells[place], others))};
    }

    long prove(int g, int what, int x) {
        if (hinder(g, 3) != 0) {
            return hinder(g, 3);
        }
        if (what < 0 || what >= 11) {
            return ARGUMENT;
        }
        Match m = matches.get(g);
        m.latest = now;
        Long[] both = given(m.low, what, x);
        if (both[0] != m.agreed || both[1] == null || both[1] != m.disputed) {
            return 0;
        }
        m.over = true;
        money[asserter] += 100;
        settle();
        return 1;
    }

    private long running() {
        return matches.stream().filter(m -> !m.over).count();
    }

    private void settle() {
        if (open && now - made >= 12 && running() == 0) {
            money[asserter] += 100;
            base = claim;
            stood.add(new Span(steps, limit));
            open = false;
            matches.clear();
        }
    }

    long block() {
        now++;
        for (Match m : List.copyOf(matches)) {
            if (!open || m.over || m.latest + 4 >= now) {
                continue;
            }
            m.over = true;
            if (m.middle != null) {
                money[asserter] += 100;
                continue;
            }
            money[m.challenger] += 200;
            matches.stream().filter(o -> !o.over).forEach(o -> money[o.challenger] += 100);
            open = false;
            matches.clear();
        }
        settle();
        return now;
    }

    long draw(int k) {
        List<Payment> log = new ArrayList<>();
        View v = truthView(log);
        if (k < 0 || k >= log.size()) {
            return INDEX;
        }
        if (drawn.contains(k) || v.commitment() != base) {
            return STATE;
        }
        Payment payment = log.get(k);
        if (payment.amount() < 1) {
            return ARGUMENT;
        }
        if (payment.amount() > pot) {
            return ROOM;
        }
        drawn.add(k);
        pot -= payment.amount();
        money[payment.party()] += payment.amount();
        return payment.amount();
    }

    long balance(int p) {
        return nobody(p) ? -1 : money[p];
    }

    long word(int k) {
        return k >= 0 && k < words.size() ? words.get(k) : 0;
    }

    long truth(int j) {
        return j >= 0 && j <= 64 ? viewAfter(j).commitment() : 0;
    }

    long state(int what) {
        View v = truthView(new ArrayList<>());
        long[] first = {v.pc, v.a, v.b, v.read, v.paid, v.trail};
        if (what >= 0 && what < 6) {
            return first[what];
        }
        return what >= 6 && what <= 13 ? v.cells[what - 6] : 0;
    }

    long assertion(int what) {
        long[] all = {asserter, steps, limit, made, claim, matches.size(), running()};
        return open && what >= 0 && what < 7 ? all[what] : -1;
    }

    long game(int g, int what) {
        return g >= 0 && g < matches.size() ? matches.get(g).ask(what) : -1;
    }
}
