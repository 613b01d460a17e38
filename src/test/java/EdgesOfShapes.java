/** Promises 16 and 17: bounds of HOLLOWS, of the DEEPEST CELL, of TILT and RAIL. */
final class EdgesOfShapes {
    private static final int BAD = -1, NOT = -2, VOID = -2000000000;
    private static final int LEAST = Integer.MIN_VALUE, MOST = Integer.MAX_VALUE;

    private EdgesOfShapes() {
    }

    static void tell(Edges edges) {
        edges.test(16, "SHAPE of a STEP's MEASURES: HOLLOWS: how many CELLS (or rows of like ones) are deeper than those "
                + "on both sides", EdgesOfShapes::hollows);
        edges.test(16, "(beyond the ends nothing lies, which is less than 0, too: there is always one)",
                EdgesOfShapes::alwaysOne);
        edges.test(16, "DEEPEST CELL (of like ones the first).", EdgesOfShapes::deepest);
        edges.test(16, "TILT: MEASURES of CELLS 4 .. 7 less those of 0 .. 3.", EdgesOfShapes::tilt);
        edges.test(16, "Of a STEP's MEASURES: HOLLOWS (what 0), DEEPEST (1), TILT (2).", EdgesOfShapes::what);
        edges.test(16, "VOID: BAD.", EdgesOfShapes::isVoid);
        edges.test(17, "RAIL: the longest row of CELLS at an end (from CELL 0 on, or from 7 down) with MEASURES below t: "
                + "how many;", EdgesOfShapes::howMany);
        edges.test(17, "the side (0: at CELL 0; of like ones that).", EdgesOfShapes::side);
        edges.test(17, "RAIL below t (0 .. 99999)", EdgesOfShapes::belowT);
        edges.test(17, "how many CELLS (what 0), the side (1). BAD;", EdgesOfShapes::railBad);
        edges.test(17, "BAD; NOT: none.", EdgesOfShapes::none);
    }

    /** MEASURES of STEP 1, a digit each; STEP 0 has others. */
    private static Asked worn(Asked x, String measures) {
        Asked y = x.another();
        y.steps(2);
        y.depths(0, 4, 1, 4, 1, 4, 1, 4, 9);
        for (int c = 0; c < 8; c++) {
            y.call("depth", 10 + c, measures.charAt(c) - '0');
        }
        return y;
    }

    private static void shape(Asked x, int what, int want, String... rows) {
        for (String row : rows) {
            worn(x, row).due(want, "shape", 1, what);
        }
    }

    private static void hollows(Asked x) {
        shape(x, 0, 1, "00000000", "00010000", "00011000", "11111111", "01111110", "12345432", "12344321", "00000001");
        shape(x, 0, 2, "10000001", "01010000", "01101100", "11000011", "12121111", "11211211", "98888889");
        shape(x, 0, 3, "10100001", "21212111", "33122133", "01010100");
        shape(x, 0, 4, "10101010", "01010101", "10110101", "89898989", "20102012");
        // A row of like ones with a deeper one at one side is none.
        shape(x, 0, 1, "11222333", "33322211", "11223311");
    }

    private static void alwaysOne(Asked x) {
        x.steps(1);
        x.due(1, "shape", 0, 0);
        shape(x, 0, 1, "00000000", "10000000", "00000001", "87654321", "12345678", "99999999");
        shape(x, 0, 2, "10000001", "11000011", "20001000", "00010002");
        x.depths(0, 99999, 99999, 99999, 99999, 99999, 99999, 99999, 99999);
        x.due(1, "shape", 0, 0);
    }

    private static void deepest(Asked x) {
        shape(x, 1, 0, "00000000", "10000000", "11111111", "20000002", "87654321");
        shape(x, 1, 1, "01000000", "01000001", "12222221");
        shape(x, 1, 6, "00000010", "00000011", "12345676");
        shape(x, 1, 7, "00000001", "12345678", "88888889");
        x.steps(1);
        x.depths(0, 99998, 0, 99999, 0, 99999);
        x.due(2, "shape", 0, 1);
    }

    private static void tilt(Asked x) {
        shape(x, 2, 0, "00000000", "99999999", "12344321", "40000004");
        shape(x, 2, 1, "00001000", "00000001", "33334333");
        shape(x, 2, -1, "00010000", "10000000", "33343333");
        x.steps(1);
        x.depths(0, 0, 0, 0, 0, 99999, 99999, 99999, 99999);
        x.due(399996, "shape", 0, 2);
        x.depths(0, 99999, 99999, 99999, 99999, 0, 0, 0, 0);
        x.due(-399996, "shape", 0, 2);
        x.depths(0, 1, 10, 100, 1000, 2, 20, 200, 2000);
        x.due(1111, "shape", 0, 2);
    }

    private static void what(Asked x) {
        Asked y = worn(x, "01203000");
        y.refused(VOID, "shape", 1, -1);
        y.due(2, "shape", 1, 0);
        y.due(4, "shape", 1, 1);
        y.due(0, "shape", 1, 2);
        y.refused(VOID, "shape", 1, 3);
        y.refused(VOID, "shape", 1, LEAST);
        y.refused(VOID, "shape", 1, MOST);
    }

    private static void isVoid(Asked x) {
        x.refused(VOID, "shape", 0, 0);
        x.steps(2);
        x.refused(VOID, "shape", -1, 0);
        x.due(1, "shape", 0, 0);
        x.due(1, "shape", 1, 0);
        x.refused(VOID, "shape", 2, 0);
        x.refused(VOID, "shape", LEAST, 2);
        x.refused(VOID, "shape", MOST, 2);
        x.refused(VOID, "shape", 2, 3);
    }

    private static void rail(Asked x, int t, int many, int side, String... rows) {
        for (String row : rows) {
            Asked y = worn(x, row);
            y.due(many, "rail", 1, t, 0);
            y.due(side, "rail", 1, t, 1);
        }
    }

    private static void howMany(Asked x) {
        rail(x, 5, 1, 0, "45555555", "45444445", "45555554");
        rail(x, 5, 1, 1, "55555554", "54444454");
        rail(x, 5, 2, 0, "44544445", "44555554");
        rail(x, 5, 2, 1, "45444544");
        rail(x, 5, 7, 0, "44444445", "00000009");
        rail(x, 5, 7, 1, "54444444", "90000000");
        rail(x, 5, 8, 0, "44444444", "00000000");
    }

    private static void side(Asked x) {
        rail(x, 1, 1, 0, "01111110", "01000010");
        rail(x, 1, 3, 0, "00011000", "00011100");
        rail(x, 1, 3, 1, "00111000", "10111000");
        rail(x, 1, 4, 0, "00001000", "00001111");
        rail(x, 1, 4, 1, "00010000", "11110000");
        rail(x, 1, 8, 0, "00000000");
    }

    private static void belowT(Asked x) {
        x.steps(1);
        x.depths(0, 99, 100, 101, 99998, 99999, 0, 1, 0);
        x.refused(BAD, "rail", 0, -1, 0);
        x.refused(NOT, "rail", 0, 0, 0);
        x.due(1, "rail", 0, 1, 0);
        x.due(3, "rail", 0, 2, 0);
        x.due(1, "rail", 0, 2, 1);
        x.due(3, "rail", 0, 99, 0);
        x.due(1, "rail", 0, 99, 1);
        x.depths(0, 99, 100, 101, 99998, 99999, 0, 1, 7);
        x.due(3, "rail", 0, 100, 0);
        x.depths(0, 99, 100, 101, 99998, 99999, 0, 99999, 99999);
        x.refused(NOT, "rail", 0, 99, 0);
        x.due(1, "rail", 0, 100, 0);
        x.due(2, "rail", 0, 101, 0);
        x.due(3, "rail", 0, 102, 0);
        x.due(3, "rail", 0, 99998, 0);
        x.due(4, "rail", 0, 99999, 0);
        x.refused(BAD, "rail", 0, 100000, 0);
        x.refused(BAD, "rail", 0, LEAST, 0);
        x.refused(BAD, "rail", 0, MOST, 0);
    }

    private static void railBad(Asked x) {
        x.refused(BAD, "rail", 0, 1, 0);
        x.steps(2);
        x.refused(BAD, "rail", 0, 1, -1);
        x.due(8, "rail", 0, 1, 0);
        x.due(0, "rail", 0, 1, 1);
        x.refused(BAD, "rail", 0, 1, 2);
        x.refused(BAD, "rail", -1, 1, 0);
        x.due(8, "rail", 1, 1, 0);
        x.refused(BAD, "rail", 2, 1, 0);
        x.refused(BAD, "rail", 0, 0, 2);
        x.refused(BAD, "rail", 2, 0, 0);
        x.refused(BAD, "rail", MOST, 1, 0);
    }

    private static void none(Asked x) {
        x.steps(1);
        x.refused(NOT, "rail", 0, 0, 0);
        x.refused(NOT, "rail", 0, 0, 1);
        x.depths(0, 5, 0, 0, 0, 0, 0, 0, 5);
        x.due(8, "rail", 0, 6, 0);
        x.refused(NOT, "rail", 0, 5, 0);
        x.refused(NOT, "rail", 0, 5, 1);
        x.refused(NOT, "rail", 0, 4, 1);
        x.due(5, "depth", 7, 4);
        x.due(7, "rail", 0, 5, 0);
        x.due(1, "rail", 0, 5, 1);
        x.refused(NOT, "rail", 0, 4, 0);
    }
}
