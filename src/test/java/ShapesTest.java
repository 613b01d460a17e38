/** Promises 16 and 17: hollows, the deepest cell, tilt, rails. */
public final class ShapesTest {
    private static final Due due = new Due("shapes");

    public static void main(String[] args) {
        shape("00000000", 1, 0, 0);
        shape("55555555", 1, 0, 0);
        shape("12345678", 1, 7, 16);
        shape("87654321", 1, 0, -16);
        shape("10000000", 1, 0, -1);
        shape("00000001", 1, 7, 1);
        shape("01000010", 2, 1, 0);
        shape("10101010", 4, 0, 0);
        shape("01010101", 4, 1, 0);
        shape("00110022", 2, 6, 2);
        shape("22110022", 2, 0, -2);
        shape("12233221", 1, 3, 0);
        shape("12212221", 2, 1, 1);
        shape("33122133", 3, 0, 0);
        shape("00500000", 1, 2, -5);
        shape("98898898", 3, 0, -1);
        shape("01223210", 1, 4, 1);
        shapeBad();
        rail("00000000", 1, 8, 0);
        rail("00500000", 1, 5, 1);
        rail("00000500", 1, 5, 0);
        rail("00055000", 1, 3, 0);
        rail("00055000", 6, 8, 0);
        rail("10000000", 1, 7, 1);
        rail("00000001", 1, 7, 0);
        rail("10000001", 1, -2, -2);
        rail("10000001", 2, 8, 0);
        rail("55011110", 2, 6, 1);
        rail("51111115", 2, -2, -2);
        rail("00000000", 0, -2, -2);
        rail("44445555", 5, 4, 0);
        rail("55554444", 5, 4, 1);
        rail("55554444", 4, -2, -2);
        railBad();
        due.end();
    }

    /** MEASURES of step 1, a digit each. */
    private static HollowSteps worn(String measures) {
        HollowSteps x = new HollowSteps();
        x.step(10, 0, 1);
        x.step(10, 0, 1);
        for (int c = 0; c < 8; c++) {
            x.depth(c, 7);
            x.depth(10 + c, measures.charAt(c) - '0');
        }
        return x;
    }

    private static void shape(String measures, int hollows, int deepest, int tilt) {
        HollowSteps x = worn(measures);
        due.is("hollows of " + measures, x.shape(1, 0), hollows);
        due.is("deepest of " + measures, x.shape(1, 1), deepest);
        due.is("tilt of " + measures, x.shape(1, 2), tilt);
    }

    private static void shapeBad() {
        HollowSteps x = worn("12345678");
        int[][] bad = {{2, 0}, {-1, 0}, {1, 3}, {1, -1}, {Integer.MAX_VALUE, 0}, {0, Integer.MIN_VALUE}};
        for (int[] a : bad) {
            due.is("shape(" + a[0] + ", " + a[1] + ")", x.shape(a[0], a[1]), -2000000000);
        }
        x.depth(17, 99999);
        x.depth(0, 0);
        due.is("tilt of much", x.shape(1, 2), 99999 + 18 - 10);
    }

    private static void rail(String measures, int t, int cells, int side) {
        HollowSteps x = worn(measures);
        due.is("rail of " + measures + " below " + t, x.rail(1, t, 0), cells);
        due.is("its side", x.rail(1, t, 1), side);
    }

    private static void railBad() {
        HollowSteps x = worn("12345678");
        int[][] bad = {{2, 5, 0}, {-1, 5, 0}, {1, -1, 0}, {1, 100000, 0}, {1, 5, 2}, {1, 5, -1},
            {1, Integer.MIN_VALUE, 0}, {1, 0, 2}};
        for (int[] a : bad) {
            due.is("rail(" + a[0] + ", " + a[1] + ", " + a[2] + ")", x.rail(a[0], a[1], a[2]), -1);
        }
        due.is("rail(1, 99999, 0)", x.rail(1, 99999, 0), 8);
        x.depth(10, 99999);
        due.is("99999 is not below it", x.rail(1, 99999, 0), 7);
        due.is("its side", x.rail(1, 99999, 1), 1);
    }
}
