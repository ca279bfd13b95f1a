/** Numbers that look thrown but are the same in each run. */
final class Dice {
    private long state;

    Dice(long seed) {
        state = seed * 0x9E3779B97F4A7C15L + 12345;
    }

    /** One of 0 .. sides - 1. */
    int of(int sides) {
        state = state * 6364136223846793005L + 1442695040888963407L;
        return (int) Long.remainderUnsigned(state >>> 17, sides);
    }

    int from(int least, int most) {
        return least + of(most - least + 1);
    }

    boolean in(int sides) {
        return of(sides) == 0;
    }

    int any() {
        int[] edges = {Integer.MIN_VALUE, Integer.MAX_VALUE, -1, 0, 1, -2, 10, 12, 13, 20, 39, 40, 99, 100, 200, 201,
            240, 241, 600, 1000000, 1000001, 1000000000, 1000000001, 1 << 31, 0x20202020};
        return in(3) ? of(1 << 30) * (in(2) ? 1 : -1) * from(1, 4) : edges[of(edges.length)];
    }
}
