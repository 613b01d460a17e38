/** Promises 26 to 28: bounds of a day's counts and of WALKS over them. */
final class EdgesOfGate {
    private static final int BAD = -1, FULL = -3, STATE = -5;
    private static final int LEAST = Integer.MIN_VALUE, MOST = Integer.MAX_VALUE;

    private EdgesOfGate() {
    }

    static void tell(Edges edges) {
        edges.test(26, "GATE: a day's counts (up to 30, 0 .. 9999):", EdgesOfGate::counts);
        edges.test(26, "A day's count: how many there are.", EdgesOfGate::howMany);
        edges.test(26, "BAD, FULL: 30.", EdgesOfGate::full);
        edges.test(27, "the mean (cut)", EdgesOfGate::mean);
        edges.test(27, "the MIDDLE one (the lower of two).", EdgesOfGate::middle);
        edges.test(27, "GATE: mean (what 0), MIDDLE (1). BAD; STATE: no counts.", EdgesOfGate::noCounts);
        edges.test(28, "WALK: n days (1 .. 100) by a SEED, from told counts:", EdgesOfGate::days);
        edges.test(28, "z = z * 1103515245 + 12345 (an int; SEED at first) each: count (z >>> 8) % how many: their sum;",
                EdgesOfGate::walk);
        edges.test(28, "their sum; STATE: no counts.", EdgesOfGate::walkWithoutCounts);
        edges.test(28, "WALK. BAD; STATE.", EdgesOfGate::badAheadOfState);
    }

    private static void counts(Asked x) {
        x.refused(BAD, "day", -1);
        x.due(1, "day", 0);
        x.due(2, "day", 1);
        x.due(3, "day", 9998);
        x.due(4, "day", 9999);
        x.refused(BAD, "day", 10000);
        x.refused(BAD, "day", LEAST);
        x.refused(BAD, "day", MOST);
        x.due(4, "count", 4);
        x.due(19998 / 4, "gate", 0);
    }

    private static void howMany(Asked x) {
        x.due(0, "count", 4);
        for (int n = 1; n <= 30; n++) {
            x.due(n, "day", 5);
            x.due(n, "count", 4);
        }
        Asked y = x.another();
        y.due(1, "day", 5);
    }

    private static void full(Asked x) {
        for (int n = 1; n < 30; n++) {
            x.due(n, "day", 5);
        }
        x.refused(BAD, "day", 10000);
        x.due(30, "day", 35);
        x.refused(FULL, "day", 0);
        x.refused(FULL, "day", 9999);
        x.refused(BAD, "day", 10000);
        x.refused(BAD, "day", -1);
        x.due(30, "count", 4);
        x.due(6, "gate", 0);
        x.due(5, "gate", 1);
    }

    private static Asked told(Asked x, int... counts) {
        Asked y = x.another();
        for (int count : counts) {
            y.call("day", count);
        }
        return y;
    }

    private static void mean(Asked x) {
        told(x, 0).due(0, "gate", 0);
        told(x, 9999).due(9999, "gate", 0);
        told(x, 0, 1).due(0, "gate", 0);
        told(x, 1, 1).due(1, "gate", 0);
        told(x, 1, 2).due(1, "gate", 0);
        told(x, 2, 2).due(2, "gate", 0);
        told(x, 0, 0, 2).due(0, "gate", 0);
        told(x, 0, 0, 3).due(1, "gate", 0);
        told(x, 9999, 0, 9999).due(6666, "gate", 0);
        int[] thirty = new int[30];
        java.util.Arrays.fill(thirty, 9999);
        told(x, thirty).due(9999, "gate", 0);
        thirty[29] = 9998;
        told(x, thirty).due(9998, "gate", 0);
    }

    private static void middle(Asked x) {
        told(x, 7).due(7, "gate", 1);
        told(x, 7, 3).due(3, "gate", 1);
        told(x, 3, 7).due(3, "gate", 1);
        told(x, 7, 3, 5).due(5, "gate", 1);
        told(x, 7, 3, 5, 6).due(5, "gate", 1);
        told(x, 7, 3, 5, 6, 9).due(6, "gate", 1);
        told(x, 4, 4, 4, 9).due(4, "gate", 1);
        told(x, 9, 9, 4, 4).due(4, "gate", 1);
        told(x, 9, 9, 9, 4).due(9, "gate", 1);
        told(x, 9999, 0).due(0, "gate", 1);
        told(x, 0, 9999, 9999).due(9999, "gate", 1);
        int[] falling = new int[30];
        for (int i = 0; i < 30; i++) {
            falling[i] = 30 - i;
        }
        told(x, falling).due(15, "gate", 1);
        told(x, java.util.Arrays.copyOf(falling, 29)).due(16, "gate", 1);
        // Asking leaves the counts in their order: the walk's first place for SEED 1 is 4310654 % 3, the last one.
        Asked y = told(x, 9, 5, 1);
        y.due(5, "gate", 1);
        y.due(1, "walk", 1, 1);
    }

    private static void noCounts(Asked x) {
        x.refused(STATE, "gate", 0);
        x.refused(STATE, "gate", 1);
        x.refused(BAD, "gate", -1);
        x.refused(BAD, "gate", 2);
        x.refused(BAD, "gate", LEAST);
        x.refused(BAD, "day", 10000);
        x.refused(STATE, "gate", 0);
        x.due(1, "day", 0);
        x.due(0, "gate", 0);
        x.due(0, "gate", 1);
        x.refused(BAD, "gate", -1);
        x.refused(BAD, "gate", 2);
        x.refused(BAD, "gate", MOST);
    }

    private static void days(Asked x) {
        x.due(1, "day", 7);
        x.refused(BAD, "walk", -1, 1);
        x.refused(BAD, "walk", 0, 1);
        x.due(7, "walk", 1, 1);
        x.due(14, "walk", 2, 1);
        x.due(99 * 7, "walk", 99, 1);
        x.due(700, "walk", 100, 1);
        x.refused(BAD, "walk", 101, 1);
        x.refused(BAD, "walk", LEAST, 1);
        x.refused(BAD, "walk", MOST, 1);
    }

    /** The same by longs that hold an int's 32 bits without a sign. */
    private static long walked(int[] counts, int n, int seed) {
        long z = seed & 0xffffffffL;
        long sum = 0;
        for (int day = 0; day < n; day++) {
            z = (z * 1103515245L + 12345L) % (1L << 32);
            sum += counts[(int) (z / 256 % counts.length)];
        }
        return sum;
    }

    private static void walk(Asked x) {
        for (int many : new int[] {1, 2, 3, 7, 29, 30}) {
            int[] counts = new int[many];
            for (int i = 0; i < many; i++) {
                counts[i] = i == many - 1 ? 9999 : i * i;
            }
            Asked y = told(x, counts);
            for (int seed : new int[] {0, 1, -1, 2, -12345, LEAST, LEAST + 1, MOST, MOST - 1, 1 << 30}) {
                for (int n : new int[] {1, 2, 3, 100}) {
                    y.due(walked(counts, n, seed), "walk", n, seed);
                }
            }
        }
        // SEED 0: the first z is 12345, 48 % 3 is 0; SEED -1: -1103502900 >>> 8 is 12466657, % 3 is 1.
        Asked y = told(x, 5, 60, 700);
        y.due(5, "walk", 1, 0);
        y.due(700, "walk", 1, 1);
        y.due(60, "walk", 1, -1);
    }

    private static void walkWithoutCounts(Asked x) {
        x.refused(STATE, "walk", 1, 1);
        x.refused(STATE, "walk", 100, 0);
        x.due(1, "day", 0);
        x.due(0, "walk", 1, 1);
        x.due(0, "walk", 100, 1);
        x.due(2, "day", 0);
        x.due(0, "walk", 100, LEAST);
    }

    private static void badAheadOfState(Asked x) {
        x.refused(BAD, "walk", 0, 1);
        x.refused(BAD, "walk", 101, 1);
        x.refused(STATE, "walk", 1, 1);
        x.refused(STATE, "walk", 100, 1);
    }
}
