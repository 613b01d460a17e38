/** Promises 31 to 33: wears, their acts, and the trace. */
public final class ActsTest {
    private static final Due due = new Due("acts");
    private static final int LIES = 0, WEARS = 1, COUNTS = 2, TELLS = 3;

    public static void main(String[] args) {
        body();
        acts();
        wraps();
        noSuch();
        traceBad();
        due.end();
    }

    private static void body() {
        HollowSteps x = new HollowSteps();
        for (int kind : new int[] {-1, 8, Integer.MIN_VALUE, Integer.MAX_VALUE}) {
            due.is("body(" + kind + ")", x.body(kind), -1);
        }
        for (int i = 0; i < 50; i++) {
            due.is("body " + i, x.body(i % 8), i);
        }
        due.is("a 51st", x.body(0), -3);
        due.is("a 51st not as said", x.body(8), -1);
        due.is("fifty", x.count(6), 50);
        due.is("body 49 is an UP: lies(1)", x.act(49, LIES, 1), 53);
        due.is("body 48 is a WEAR: lies(1)", x.act(48, LIES, 1), 49);
    }

    /** One WEAR of each KIND is kept, so that a KIND's number is its n. */
    private static HollowSteps all() {
        HollowSteps x = new HollowSteps();
        for (int kind = 0; kind < 8; kind++) {
            x.body(kind);
        }
        return x;
    }

    private static void act(int body, int act, int want, int... trace) {
        HollowSteps x = all();
        String name = "act(" + body + ", " + act + ", 10)";
        due.is(name, x.act(body, act, 10), want);
        due.is("bodies that ran in " + name, x.count(7), trace.length);
        for (int i = 0; i < trace.length; i++) {
            due.is("trace(" + i + ") of " + name, x.trace(i), trace[i]);
        }
        due.is("the trace ends", x.trace(trace.length), -1);
    }

    private static void acts() {
        act(0, LIES, 10, 1);
        act(0, WEARS, 20, 10, 1);
        act(0, COUNTS, 10, 11);
        act(0, TELLS, 20 - 1, 2, 10, 1, 11);
        act(1, LIES, 14, 20, 1);
        act(1, WEARS, 28, 10, 20, 1);
        act(1, COUNTS, 11, 11);
        act(1, TELLS, 28, 2, 10, 20, 1, 11);
        act(2, LIES, 12, 1);
        act(2, WEARS, -24, 30, 10, 1);
        act(2, COUNTS, 8, 11);
        act(2, TELLS, -24 - 3, 2, 30, 10, 1, 11);
        act(3, LIES, 11 + 3 + 3, 41, 20, 1);
        act(3, WEARS, 34, 10, 41, 20, 1);
        act(3, COUNTS, 18, 40, 11);
        act(3, TELLS, 34 - 4, 2, 10, 41, 20, 1, 40, 11);
        act(4, LIES, 14, 1);
        act(4, WEARS, -28, 30, 10, 1);
        act(4, COUNTS, 14, 11);
        act(4, TELLS, (-28 - 5) ^ 5, 50, 2, 30, 10, 1, 11);
        act(5, LIES, 15, 1);
        act(5, WEARS, 30, 10, 1);
        act(5, COUNTS, 15 - 7, 60, 11, 1);
        act(5, TELLS, 30 - (4 - 7), 2, 10, 1, 60, 11, 1);
        act(6, LIES, 16, 1);
        act(6, WEARS, 32 + 4, 70, 10, 1, 11);
        act(6, COUNTS, 12, 11);
        act(6, TELLS, 36 - 7, 2, 70, 10, 1, 11, 11);
        act(7, LIES, 51, 80, 1);
        act(7, WEARS, 102 + 5, 70, 10, 80, 1, 11);
        act(7, COUNTS, 13, 11);
        act(7, TELLS, 107 - 6 - 1, 81, 2, 70, 10, 80, 1, 11, 11);
    }

    private static void wraps() {
        HollowSteps x = all();
        int most = Integer.MAX_VALUE;
        due.is("lies wraps", x.act(1, LIES, most), Integer.MIN_VALUE + 3);
        due.is("wears wraps", x.act(0, WEARS, most), -2);
        due.is("minus wraps", x.act(2, WEARS, (1 << 30) - 2), Integer.MIN_VALUE);
        due.is("times 3 wraps", x.act(7, LIES, most - 7), most * 3);
        due.is("counts of the least", x.act(3, COUNTS, Integer.MIN_VALUE), 6);
        due.is("counts below 0", x.act(5, COUNTS, -1), (-1 ^ 5) - 7);
    }

    private static void noSuch() {
        HollowSteps x = all();
        int[][] none = {{-1, 0}, {8, 0}, {0, -1}, {1, -1}, {7, -1}, {3, -2}, {0, 4}, {1, 4}, {5, 7}, {Integer.MIN_VALUE, 0}, {0, Integer.MAX_VALUE}, {50, 0},
            {49, 3}, {Integer.MAX_VALUE, Integer.MIN_VALUE}};
        for (int[] a : none) {
            x.act(0, TELLS, 1);
            due.is("a trace", x.count(7), 4);
            due.is("act(" + a[0] + ", " + a[1] + ", 5)", x.act(a[0], a[1], 5), 0);
            due.is("no trace then", x.count(7), 0);
            due.is("no trace then", x.trace(0), -1);
        }
    }

    private static void traceBad() {
        HollowSteps x = all();
        due.is("no act yet", x.trace(0), -1);
        x.act(7, TELLS, 3);
        for (int i : new int[] {-1, 8, 23, 24, Integer.MIN_VALUE, Integer.MAX_VALUE}) {
            due.is("trace(" + i + ")", x.trace(i), -1);
        }
        due.is("trace(7)", x.trace(7), 11);
        x.act(0, LIES, 3);
        due.is("the latest act's alone", x.trace(1), -1);
        due.is("trace(0)", x.trace(0), 1);
        x.body(9);
        x.of(9, 9);
        due.is("other calls leave it", x.trace(0), 1);
    }
}
