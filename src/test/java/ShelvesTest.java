/** Promises 34 to 40: shelves, rows, what is taken from them, and the counts. */
public final class ShelvesTest {
    private static final Due due = new Due("shelves");
    private static final long VOID = Long.MIN_VALUE;

    public static void main(String[] args) {
        keep();
        row();
        put();
        cut();
        element();
        shift();
        shiftOverItself();
        shiftRefused();
        taken();
        takenRefused();
        count();
        due.end();
    }

    private static void keep() {
        HollowSteps x = new HollowSteps();
        due.is("no such body", x.keep(0, 0), -1);
        due.is("nothing", x.keep(5, -1), 1);
        x.body(4);
        due.is("a wear", x.keep(5, 0), 1);
        due.is("it is there", x.taken(5, 0), 4);
        int[][] bad = {{6, 0}, {-1, 0}, {0, 1}, {0, -2}, {Integer.MIN_VALUE, -1}, {Integer.MAX_VALUE, 0},
            {0, Integer.MIN_VALUE}, {5, 1}, {5, -2}};
        for (int[] a : bad) {
            due.is("keep(" + a[0] + ", " + a[1] + ")", x.keep(a[0], a[1]), -1);
        }
        due.is("it is there still", x.taken(5, 0), 4);
        due.is("the others hold nothing", x.taken(0, 0), -11);
        x.keep(5, -1);
        due.is("nothing is there", x.taken(5, 0), -11);
        x.row(5, 0, 1);
        x.keep(5, 0);
        due.is("in a row's stead", x.put(5, 0, 1), -12);
        x.keep(5, -1);
        due.is("nothing in a wear's stead", x.put(5, 0, 1), -11);
    }

    private static void row() {
        HollowSteps x = new HollowSteps();
        int[][] bad = {{6, 0, 1}, {-1, 0, 1}, {0, 5, 1}, {0, -1, 1}, {0, 0, 61}, {0, 0, Integer.MAX_VALUE}, {0, 5, -1},
            {6, 0, -1}, {Integer.MIN_VALUE, 0, 0}, {0, Integer.MAX_VALUE, 0}};
        for (int[] a : bad) {
            due.is("row(" + a[0] + ", " + a[1] + ", " + a[2] + ")", x.row(a[0], a[1], a[2]), -1);
        }
        due.is("row(0, 0, -1)", x.row(0, 0, -1), -14);
        due.is("row(0, 4, MIN)", x.row(0, 4, Integer.MIN_VALUE), -14);
        due.is("nothing came", x.put(0, 0, 1), -11);
        for (int sort = 0; sort <= 4; sort++) {
            due.is("row(0, " + sort + ", 60)", x.row(0, sort, 60), 1);
            due.is("its first", x.element(0, 0), 0);
            due.is("its last", x.put(0, 59, 1), 1);
            due.is("no more", x.put(0, 60, 1), -13);
            due.is("row(0, " + sort + ", 0)", x.row(0, sort, 0), 1);
            due.is("it has none", x.put(0, 0, 1), -13);
        }
        x.row(0, 2, 60);
        due.is("a new row is 0 again", x.element(0, 59), 0);
        x.put(0, 7, 9);
        x.row(0, 2, -1);
        due.is("a refused one changes nothing", x.element(0, 7), 9);
        x.row(1, 3, 8);
        due.is("each shelf has its own", x.element(1, 7), 0);
        x.put(0, 0, 9);
        x.row(0, 2, 8);
        due.is("0 again", x.element(0, 7), 0);
        due.is("0 again at once", x.element(0, 0), 0);
    }

    private static void put() {
        HollowSteps x = new HollowSteps();
        x.body(0);
        x.row(0, 2, 3);
        x.keep(1, 0);
        due.is("put", x.put(0, 2, 77), 1);
        due.is("element", x.element(0, 2), 77);
        due.is("the others stay", x.element(0, 1), 0);
        for (int i : new int[] {-1, 3, 59, 60, Integer.MIN_VALUE, Integer.MAX_VALUE}) {
            due.is("put(0, " + i + ")", x.put(0, i, 1), -13);
            due.is("put(1, " + i + ")", x.put(1, i, 1), -12);
            due.is("put(2, " + i + ")", x.put(2, i, 1), -11);
            due.is("put(6, " + i + ")", x.put(6, i, 1), -1);
            due.is("put(-1, " + i + ")", x.put(-1, i, 1), -1);
        }
        due.is("put(1, 0)", x.put(1, 0, 1), -12);
        due.is("put(2, 0)", x.put(2, 0, 1), -11);
        due.is("put(MAX, 0)", x.put(Integer.MAX_VALUE, 0, 1), -1);
    }

    private static void cut(int sort, long v, long want) {
        HollowSteps x = new HollowSteps();
        x.row(2, sort, 1);
        due.is("put", x.put(2, 0, v), 1);
        due.is(v + " in sort " + sort, x.element(2, 0), want);
    }

    private static void cut() {
        long[] told = {127, 128, 255, 256, -129, 32767, 32768, 65536, -32769, 2147483647L, 2147483648L, 4294967296L,
            -1, 0, 1, Long.MAX_VALUE, Long.MIN_VALUE + 1, 0x123456789abcdef0L};
        for (long v : told) {
            cut(0, v, (byte) v);
            cut(1, v, (short) v);
            cut(2, v, (int) v);
            cut(3, v, v);
            cut(4, v, v == 0 ? 0 : 1);
        }
        cut(0, 200, -56);
        cut(1, 40000, -25536);
        cut(2, 3000000000L, -1294967296);
        cut(4, 256, 1);
        cut(4, 4294967296L, 1);
        cut(4, Long.MIN_VALUE, 1);
        cut(3, Long.MIN_VALUE, Long.MIN_VALUE);
    }

    private static void element() {
        HollowSteps x = new HollowSteps();
        x.body(0);
        x.row(0, 3, 3);
        x.keep(1, 0);
        x.put(0, 1, -11);
        due.is("element(0, 1)", x.element(0, 1), -11);
        int[][] bad = {{-1, 0}, {6, 0}, {0, -1}, {0, 3}, {1, 0}, {2, 0}, {0, Integer.MAX_VALUE}, {0, Integer.MIN_VALUE},
            {Integer.MAX_VALUE, 0}};
        for (int[] a : bad) {
            due.is("element(" + a[0] + ", " + a[1] + ")", x.element(a[0], a[1]), VOID);
        }
    }

    private static HollowSteps rows(int sort, int n) {
        HollowSteps x = new HollowSteps();
        for (int shelf = 0; shelf < 2; shelf++) {
            x.row(shelf, sort, n);
            for (int i = 0; i < n; i++) {
                x.put(shelf, i, sort == 4 ? (i + shelf) % 2 : 10 * shelf + i);
            }
        }
        return x;
    }

    private static void holds(HollowSteps x, int shelf, long... want) {
        for (int i = 0; i < want.length; i++) {
            due.is("element(" + shelf + ", " + i + ")", x.element(shelf, i), want[i]);
        }
        due.is("the row's end", x.element(shelf, want.length), VOID);
    }

    private static void shift() {
        for (int sort = 0; sort < 4; sort++) {
            HollowSteps x = rows(sort, 6);
            due.is("shift", x.shift(0, 1, 1, 3, 2), 2);
            holds(x, 1, 10, 11, 12, 1, 2, 15);
            holds(x, 0, 0, 1, 2, 3, 4, 5);
            due.is("all", x.shift(1, 0, 0, 0, 6), 6);
            holds(x, 0, 10, 11, 12, 1, 2, 15);
            due.is("none, at the end of both", x.shift(0, 6, 1, 6, 0), 0);
        }
        HollowSteps x = rows(4, 4);
        due.is("booleans", x.shift(0, 0, 1, 0, 3), 3);
        holds(x, 1, 0, 1, 0, 0);
    }

    private static void shiftOverItself() {
        HollowSteps x = rows(2, 6);
        due.is("on", x.shift(0, 0, 0, 2, 4), 4);
        holds(x, 0, 0, 1, 0, 1, 2, 3);
        x = rows(2, 6);
        due.is("back", x.shift(0, 2, 0, 0, 4), 4);
        holds(x, 0, 2, 3, 4, 5, 4, 5);
        x = rows(2, 6);
        due.is("in place", x.shift(0, 2, 0, 2, 4), 4);
        holds(x, 0, 0, 1, 2, 3, 4, 5);
    }

    private static void shiftRefused() {
        HollowSteps x = rows(2, 6);
        x.row(2, 3, 6);
        x.row(3, 2, 2);
        x.body(0);
        x.keep(4, 0);
        int most = Integer.MAX_VALUE;
        int least = Integer.MIN_VALUE;
        int[][] calls = {{-1, 0, 0, 0, 1, -1}, {0, 0, -1, 0, 1, -1}, {6, 0, 0, 0, 1, -1}, {0, 0, 6, 0, 1, -1},
            {5, 0, 6, 0, 1, -1}, {most, 0, 5, 0, 1, -1},
            {5, 0, 0, 0, 1, -11}, {0, 0, 5, 0, 1, -11}, {5, 0, 4, 0, 1, -11}, {4, 0, 5, 0, 1, -11}, {5, 9, 5, 9, 9, -11},
            {4, 0, 0, 0, 1, -12}, {0, 0, 4, 0, 1, -12}, {0, 0, 2, 0, 1, -12}, {2, 9, 0, 9, 9, -12}, {4, 0, 4, 0, 0, -12},
            {0, -1, 1, 0, 1, -13}, {0, 0, 1, -1, 1, -13}, {0, 0, 1, 0, 7, -13}, {0, 4, 1, 0, 3, -13}, {0, 0, 1, 4, 3, -13},
            {0, 7, 1, 0, 0, -13}, {0, 0, 1, 7, 0, -13}, {0, 0, 1, 0, -1, -13}, {0, 6, 1, 6, -1, -13},
            {0, 0, 3, 0, 3, -13}, {3, 0, 0, 0, 3, -13}, {0, most, 1, 0, 1, -13}, {0, 0, 1, most, 1, -13},
            {0, 1, 1, 1, most, -13}, {0, least, 1, 0, least, -13}, {0, most, 1, most, most, -13}};
        for (int[] a : calls) {
            String shown = "shift" + java.util.Arrays.toString(a);
            due.is(shown, x.shift(a[0], a[1], a[2], a[3], a[4]), a[5]);
        }
        holds(x, 0, 0, 1, 2, 3, 4, 5);
        holds(x, 1, 10, 11, 12, 13, 14, 15);
        x.row(5, 2, 6);
        x.keep(5, 0);
        due.is("a wear where a row of that sort was", x.shift(5, 0, 0, 0, 1), -12);
        due.is("a wear where a row of that sort was", x.shift(0, 0, 5, 0, 1), -12);
    }

    private static void taken() {
        HollowSteps x = new HollowSteps();
        String[] above = {"0", "10", "20", "310", "420", "50", "60", "760"};
        for (int kind = 0; kind < 8; kind++) {
            x.body(kind);
            x.keep(0, kind);
            for (int k = 0; k < 8; k++) {
                boolean under = above[kind].indexOf('0' + k) >= 0;
                due.is("kind " + kind + " taken for " + k, x.taken(0, k), under ? kind : -12);
            }
        }
    }

    private static void takenRefused() {
        HollowSteps x = new HollowSteps();
        x.row(0, 0, 1);
        due.is("a row", x.taken(0, 0), -12);
        due.is("nothing", x.taken(1, 0), -11);
        for (int k : new int[] {-1, 8, Integer.MIN_VALUE, Integer.MAX_VALUE}) {
            due.is("taken(0, " + k + ")", x.taken(0, k), -1);
            due.is("taken(1, " + k + ")", x.taken(1, k), -1);
            due.is("taken(" + (k == 8 ? 6 : k) + ", 0)", x.taken(k == 8 ? 6 : k, 0), -1);
        }
    }

    private static void count() {
        HollowSteps x = new HollowSteps();
        x.step(10, 0, 1);
        x.step(10, 0, 1);
        Texts.law(x, "1");
        x.story(0, 0, 0);
        x.story(0, 0, 0);
        x.story(0, 0, 0);
        x.feed(4, 0);
        for (int v = 1; v <= 5; v++) {
            x.day(v);
        }
        for (int v = 1; v <= 7; v++) {
            x.depth(0, v);
        }
        x.undo();
        for (int v = 0; v < 8; v++) {
            x.body(v);
        }
        x.act(7, 3, 1);
        int[] want = {2, 1, 3, 4, 5, 6, 8, 8};
        for (int what = 0; what < 8; what++) {
            due.is("count(" + what + ")", x.count(what), want[what]);
        }
        for (int what : new int[] {-1, 8, Integer.MIN_VALUE, Integer.MAX_VALUE}) {
            due.is("count(" + what + ")", x.count(what), -1);
        }
    }
}
