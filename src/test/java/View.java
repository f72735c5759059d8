/** A state as a test writes it down, with the document's commitment of it. */
final class View {
    int pc;
    int a;
    int b;
    int read;
    int paid;
    long trail;
    int[] cells = new int[8];

    static long mix(long a, long b) {
        long x = (a + b * 6364136223846793005L) ^ 3935559000370003845L;
        x = x ^ (x >>> 31);
        x = x * -7723592293110705685L;
        return x ^ (x >>> 27);
    }

    static long mix2(long u, long v) {
        return mix(mix(2, u), v);
    }

    long leaf(int i) {
        return mix(1, cells[i]);
    }

    long couple(int i) {
        return mix2(leaf(2 * i), leaf(2 * i + 1));
    }

    long half(int i) {
        return mix2(couple(2 * i), couple(2 * i + 1));
    }

    long root() {
        return mix2(half(0), half(1));
    }

    /** What the other one of the two is at each level above a cell. */
    long[] others(int place) {
        return new long[] {leaf(place ^ 1), couple((place >> 1) ^ 1), half((place >> 2) ^ 1)};
    }

    static long rootFrom(int place, int cell, long[] others) {
        long low = mix(1, cell);
        long couple = place % 2 == 0 ? mix2(low, others[0]) : mix2(others[0], low);
        long half = place / 2 % 2 == 0 ? mix2(couple, others[1]) : mix2(others[1], couple);
        return place / 4 == 0 ? mix2(half, others[2]) : mix2(others[2], half);
    }

    long commitment() {
        return commitment(root());
    }

    long commitment(long root) {
        return mix(mix(mix(mix(mix(mix(mix(0, pc), a), b), read), paid), trail), root);
    }

    View pc(int value) {
        pc = value;
        return this;
    }

    View a(int value) {
        a = value;
        return this;
    }

    View b(int value) {
        b = value;
        return this;
    }

    View read(int value) {
        read = value;
        return this;
    }

    View paid(int value) {
        paid = value;
        return this;
    }

    View trail(long value) {
        trail = value;
        return this;
    }

    View cell(int k, int value) {
        cells[k] = value;
        return this;
    }
}
