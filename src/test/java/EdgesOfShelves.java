/** Promises 34 to 40: bounds of SHELVES, of ROWS and their elements, of what is taken, of the counts. */
final class EdgesOfShelves {
    private static final int BAD = -1, NOTHING = -11, OTHER_KIND = -12, NO_PLACE = -13, BELOW_ZERO = -14;
    private static final int LEAST = Integer.MIN_VALUE, MOST = Integer.MAX_VALUE;
    private static final long NONE = Long.MIN_VALUE;

    private EdgesOfShelves() {
    }

    static void tell(Edges edges) {
        edges.test(34, "SHELVES 0 .. 5 each hold nothing (at first), a WEAR, or a ROW:", EdgesOfShelves::shelves);
        edges.test(34, "A SHELF holds nothing (body -1), or a WEAR: 1. BAD.", EdgesOfShelves::keep);
        edges.test(35, "of 0 bytes, 1 shorts, 2 ints, 3 longs, 4 booleans", EdgesOfShelves::sorts);
        edges.test(35, "of 0 .. 60 elements", EdgesOfShelves::elements);
        edges.test(35, "0 at first (false);", EdgesOfShelves::zeroAtFirst);
        edges.test(35, "-14 a size below 0.", EdgesOfShelves::belowZero);
        edges.test(35, "A SHELF holds a ROW: 1. BAD (sort, n above 60); -14.", EdgesOfShelves::rowBad);
        edges.test(36, "what is put in keeps its lowest bits", EdgesOfShelves::lowestBits);
        edges.test(36, "(a boolean: whether it is not 0; 1 or 0).", EdgesOfShelves::booleans);
        edges.test(36, "The host's REFUSALS: -11 nothing is there where something is wanted; -12 it is of another kind; "
                + "-13 a place that is not there;", EdgesOfShelves::refusals);
        edges.test(36, "Element i of a ROW becomes v: 1. BAD, -11, -12, -13.", EdgesOfShelves::put);
        edges.test(37, "Element i of a ROW; Long.MIN_VALUE: BAD, -11 to -13.", EdgesOfShelves::element);
        edges.test(38, "n elements of a ROW from i on come to another one (or the same) from j on",
                EdgesOfShelves::shiftPlaces);
        edges.test(38, "as they all were before: n.", EdgesOfShelves::asTheyWere);
        edges.test(38, "BAD, -11 (either), -12 (no ROWS, or of unlike sorts), -13.", EdgesOfShelves::shiftRefused);
        edges.test(39, "What a SHELF holds, taken for a WEAR of KIND k (0 .. 7), or under it: its KIND.",
                EdgesOfShelves::taken);
        edges.test(39, "BAD, -11, -12.", EdgesOfShelves::takenRefused);
        edges.test(40, "How many: 0 STEPS, 1 LAWS, 2 STORIES, 3 bytes on THE TAPE, 4 counts, 5 changes that may be UNDONE, "
                + "6 WEARS, 7 bodies that ran in the latest act() (all, kept or not). BAD.", EdgesOfShelves::count);
    }

    // ---- promises 34 and 35

    private static void shelves(Asked x) {
        x.due(0, "body", 3);
        x.refused(BAD, "keep", -1, 0);
        x.refused(BAD, "keep", 6, 0);
        for (int shelf = 0; shelf < 6; shelf++) {
            x.refused(NOTHING, "taken", shelf, 0);
            x.refused(NOTHING, "put", shelf, 0, 1);
            x.refused(NONE, "element", shelf, 0);
            x.due(1, "keep", shelf, 0);
            x.due(3, "taken", shelf, 0);
            x.due(1, "row", shelf, 3, 1);
            x.due(1, "put", shelf, 0, 100 + shelf);
            x.refused(OTHER_KIND, "taken", shelf, 0);
        }
        for (int shelf = 0; shelf < 6; shelf++) {
            x.due(100 + shelf, "element", shelf, 0);
        }
        for (int out : new int[] {-1, 6, LEAST, MOST}) {
            x.refused(BAD, "row", out, 0, 1);
            x.refused(BAD, "put", out, 0, 1);
            x.refused(NONE, "element", out, 0);
            x.refused(BAD, "taken", out, 0);
            x.refused(BAD, "shift", out, 0, 0, 0, 0);
            x.refused(BAD, "shift", 0, 0, out, 0, 0);
            x.refused(BAD, "keep", out, -1);
        }
    }

    private static void keep(Asked x) {
        x.refused(BAD, "keep", 0, 0);
        x.due(1, "keep", 0, -1);
        x.refused(BAD, "keep", 0, -2);
        x.due(0, "body", 5);
        x.due(1, "body", 7);
        x.due(1, "keep", 0, 0);
        x.due(5, "taken", 0, 0);
        x.due(1, "keep", 0, 1);
        x.due(7, "taken", 0, 0);
        x.refused(BAD, "keep", 0, 2);
        x.refused(BAD, "keep", 0, LEAST);
        x.refused(BAD, "keep", 0, MOST);
        x.due(7, "taken", 0, 0);
        x.due(1, "keep", 0, -1);
        x.refused(NOTHING, "taken", 0, 0);
        x.due(1, "row", 0, 2, 4);
        x.due(1, "keep", 0, 0);
        x.refused(OTHER_KIND, "put", 0, 0, 1);
        x.due(1, "row", 0, 2, 4);
        x.due(1, "keep", 0, -1);
        x.refused(NOTHING, "put", 0, 0, 1);
        x.due(1, "keep", 0, -1);
    }

    private static void sorts(Asked x) {
        x.refused(BAD, "row", 0, -1, 1);
        long[] kept = {(byte) 0x9abcdef0L, (short) 0x9abcdef0L, 0x9abcdef0, 0x123456789abcdef0L, 1};
        for (int sort = 0; sort < 5; sort++) {
            x.due(1, "row", 0, sort, 1);
            x.due(1, "put", 0, 0, 0x123456789abcdef0L);
            x.due(kept[sort], "element", 0, 0);
        }
        x.refused(BAD, "row", 0, 5, 1);
        x.refused(BAD, "row", 0, LEAST, 1);
        x.refused(BAD, "row", 0, MOST, 1);
    }

    private static void elements(Asked x) {
        for (int sort = 0; sort < 5; sort++) {
            x.refused(BELOW_ZERO, "row", 0, sort, -1);
            x.due(1, "row", 0, sort, 0);
            x.refused(NO_PLACE, "put", 0, 0, 1);
            x.due(1, "row", 0, sort, 1);
            x.due(1, "put", 0, 0, 1);
            x.refused(NO_PLACE, "put", 0, 1, 1);
            x.due(1, "row", 0, sort, 59);
            x.due(1, "put", 0, 58, 1);
            x.refused(NO_PLACE, "put", 0, 59, 1);
            x.due(1, "row", 0, sort, 60);
            x.due(1, "put", 0, 59, 1);
            x.refused(NO_PLACE, "put", 0, 60, 1);
            x.refused(BAD, "row", 0, sort, 61);
            x.refused(BAD, "row", 0, sort, MOST);
            x.due(1, "element", 0, 59);
        }
    }

    private static void zeroAtFirst(Asked x) {
        for (int sort = 0; sort < 5; sort++) {
            Asked y = x.another();
            y.due(1, "row", 1, sort, 60);
            for (int i = 0; i < 60; i++) {
                y.due(0, "element", 1, i);
            }
            for (int i = 0; i < 60; i++) {
                y.due(1, "put", 1, i, -1);
            }
            y.due(1, "row", 1, sort, 3);
            y.due(1, "row", 1, sort, 60);
            for (int i = 0; i < 60; i++) {
                y.due(0, "element", 1, i);
            }
            y.due(1, "put", 1, 59, -1);
            y.due(1, "keep", 1, -1);
            y.due(1, "row", 1, 3, 60);
            y.due(0, "element", 1, 59);
        }
    }

    private static void belowZero(Asked x) {
        x.due(1, "row", 0, 2, 2);
        x.due(1, "put", 0, 1, 9);
        x.refused(BELOW_ZERO, "row", 0, 2, -1);
        x.refused(BELOW_ZERO, "row", 0, 4, LEAST);
        x.due(9, "element", 0, 1);
        x.refused(BELOW_ZERO, "row", 3, 2, -1);
        x.refused(NOTHING, "put", 3, 0, 1);
        x.due(1, "row", 0, 2, 0);
    }

    private static void rowBad(Asked x) {
        x.refused(BAD, "row", 6, 5, -1);
        x.refused(BAD, "row", 6, 0, -1);
        x.refused(BAD, "row", -1, 0, -1);
        x.refused(BAD, "row", 0, 5, -1);
        x.refused(BAD, "row", 0, -1, -1);
        x.refused(BELOW_ZERO, "row", 0, 0, -1);
        x.refused(BELOW_ZERO, "row", 5, 4, -1);
        x.refused(BAD, "row", 0, 5, 61);
        x.refused(BAD, "row", 0, 4, 61);
        x.due(1, "row", 5, 4, 60);
    }

    // ---- promises 36 and 37

    private static void kept(Asked x, int sort, long v, long want) {
        Asked y = x.another();
        y.due(1, "row", 5, sort, 2);
        y.due(1, "put", 5, 1, v);
        y.due(want, "element", 5, 1);
        y.due(0, "element", 5, 0);
    }

    private static void lowestBits(Asked x) {
        long[][] bytes = {{127, 127}, {128, -128}, {129, -127}, {255, -1}, {256, 0}, {-128, -128}, {-129, 127}, {-256, 0}};
        long[][] shorts = {{32767, 32767}, {32768, -32768}, {65535, -1}, {65536, 0}, {-32768, -32768}, {-32769, 32767}};
        long[][] ints = {{MOST, MOST}, {MOST + 1L, LEAST}, {4294967295L, -1}, {4294967296L, 0}, {LEAST, LEAST},
            {LEAST - 1L, MOST}, {Long.MIN_VALUE, 0}, {Long.MAX_VALUE, -1}};
        long[][] longs = {{MOST + 1L, MOST + 1L}, {Long.MAX_VALUE, Long.MAX_VALUE}, {Long.MIN_VALUE + 1, Long.MIN_VALUE + 1},
            {Long.MIN_VALUE, Long.MIN_VALUE}, {-1, -1}, {0, 0}};
        long[][][] sorts = {bytes, shorts, ints, longs};
        for (int sort = 0; sort < sorts.length; sort++) {
            for (long[] v : sorts[sort]) {
                kept(x, sort, v[0], v[1]);
            }
        }
        kept(x, 0, Long.MIN_VALUE, 0);
        kept(x, 1, Long.MAX_VALUE, -1);
    }

    private static void booleans(Asked x) {
        kept(x, 4, 0, 0);
        for (long v : new long[] {1, -1, 2, 256, 65536, 1L << 32, 1L << 63, Long.MAX_VALUE}) {
            kept(x, 4, v, 1);
        }
        x.due(1, "row", 0, 4, 1);
        x.due(1, "put", 0, 0, 7);
        x.due(1, "put", 0, 0, 0);
        x.due(0, "element", 0, 0);
    }

    private static void refusals(Asked x) {
        x.due(0, "body", 0);
        x.due(1, "keep", 1, 0);
        x.due(1, "row", 2, 2, 3);
        x.refused(NOTHING, "put", 0, 0, 1);
        x.refused(OTHER_KIND, "put", 1, 0, 1);
        x.refused(NO_PLACE, "put", 2, -1, 1);
        x.due(1, "put", 2, 0, 1);
        x.due(1, "put", 2, 2, 1);
        x.refused(NO_PLACE, "put", 2, 3, 1);
        x.refused(NOTHING, "taken", 0, 0);
        x.due(0, "taken", 1, 0);
        x.refused(OTHER_KIND, "taken", 1, 1);
        x.refused(OTHER_KIND, "taken", 2, 0);
    }

    private static void put(Asked x) {
        x.due(0, "body", 0);
        x.due(1, "keep", 1, 0);
        x.due(1, "row", 2, 2, 3);
        for (int i : new int[] {LEAST, -1, 0, 3, 60, MOST}) {
            x.refused(BAD, "put", -1, i, 1);
            x.refused(BAD, "put", 6, i, 1);
            x.refused(NOTHING, "put", 0, i, 1);
            x.refused(OTHER_KIND, "put", 1, i, 1);
            if (i != 0) {
                x.refused(NO_PLACE, "put", 2, i, 1);
            }
        }
        for (int i = 0; i < 3; i++) {
            x.due(1, "put", 2, i, 10 * i + 5);
        }
        for (int i = 0; i < 3; i++) {
            x.due(10 * i + 5, "element", 2, i);
        }
        x.due(1, "put", 2, 1, 7);
        x.due(5, "element", 2, 0);
        x.due(7, "element", 2, 1);
        x.due(25, "element", 2, 2);
    }

    private static void element(Asked x) {
        x.due(0, "body", 0);
        x.due(1, "keep", 1, 0);
        x.due(1, "row", 2, 3, 3);
        for (int i : new int[] {LEAST, -1, 0, 2, 3, 59, 60, MOST}) {
            x.refused(NONE, "element", -1, i);
            x.refused(NONE, "element", 6, i);
            x.refused(NONE, "element", 0, i);
            x.refused(NONE, "element", 1, i);
            if (i == 0 || i == 2) {
                x.due(0, "element", 2, i);
            } else {
                x.refused(NONE, "element", 2, i);
            }
        }
        x.due(1, "put", 2, 1, -11);
        x.due(-11, "element", 2, 1);
        x.due(1, "row", 2, 3, 0);
        x.refused(NONE, "element", 2, 0);
    }

    // ---- promise 38

    private static Asked rows(Asked x, int sort, int one, int other) {
        Asked y = x.another();
        y.due(1, "row", 0, sort, one);
        y.due(1, "row", 1, sort, other);
        for (int i = 0; i < one; i++) {
            y.due(1, "put", 0, i, i + 1);
        }
        return y;
    }

    private static void holds(Asked x, int shelf, int... want) {
        for (int i = 0; i < want.length; i++) {
            x.due(want[i], "element", shelf, i);
        }
        x.due(NONE, "element", shelf, want.length);
    }

    private static void shiftPlaces(Asked x) {
        Asked y = rows(x, 2, 4, 3);
        y.refused(NO_PLACE, "shift", 0, 0, 1, 0, -1);
        y.refused(0, "shift", 0, 0, 1, 0, 0);
        y.due(1, "shift", 0, 3, 1, 2, 1);
        holds(y, 1, 0, 0, 4);
        y.refused(NO_PLACE, "shift", 0, 4, 1, 2, 1);
        y.refused(NO_PLACE, "shift", 0, 3, 1, 3, 1);
        y.refused(NO_PLACE, "shift", 0, -1, 1, 0, 1);
        y.refused(NO_PLACE, "shift", 0, 0, 1, -1, 1);
        y.due(3, "shift", 0, 1, 1, 0, 3);
        holds(y, 1, 2, 3, 4);
        y.refused(NO_PLACE, "shift", 0, 2, 1, 0, 3);
        y.refused(NO_PLACE, "shift", 0, 0, 1, 1, 3);
        y.refused(NO_PLACE, "shift", 0, 0, 1, 0, 4);
        y.refused(NO_PLACE, "shift", 1, 0, 0, 0, 4);
        y.due(3, "shift", 1, 0, 0, 1, 3);
        holds(y, 0, 1, 2, 3, 4);
        y.refused(NO_PLACE, "shift", 1, 0, 0, 2, 3);
        // Behind the last place none can be taken, but none is there to take.
        y.refused(0, "shift", 0, 4, 1, 3, 0);
        y.refused(NO_PLACE, "shift", 0, 5, 1, 3, 0);
        y.refused(NO_PLACE, "shift", 0, 4, 1, 4, 0);
        y.refused(NO_PLACE, "shift", 0, 4, 1, 3, -1);
        for (int far : new int[] {LEAST, MOST, MOST - 1}) {
            y.refused(NO_PLACE, "shift", 0, far, 1, 0, 1);
            y.refused(NO_PLACE, "shift", 0, 0, 1, far, 1);
            y.refused(NO_PLACE, "shift", 0, 1, 1, 1, far);
            y.refused(NO_PLACE, "shift", 0, far, 1, far, far);
        }
        Asked z = rows(x, 0, 60, 60);
        z.due(60, "shift", 0, 0, 1, 0, 60);
        z.due(60, "element", 1, 59);
        z.refused(NO_PLACE, "shift", 0, 0, 1, 0, 61);
        z.refused(NO_PLACE, "shift", 0, 1, 1, 0, 60);
        Asked none = rows(x, 2, 0, 0);
        none.refused(0, "shift", 0, 0, 1, 0, 0);
        none.refused(NO_PLACE, "shift", 0, 0, 1, 0, 1);
    }

    private static void asTheyWere(Asked x) {
        for (int sort = 0; sort < 4; sort++) {
            Asked y = rows(x, sort, 5, 1);
            y.due(4, "shift", 0, 0, 0, 1, 4);
            holds(y, 0, 1, 1, 2, 3, 4);
            y = rows(x, sort, 5, 1);
            y.due(4, "shift", 0, 1, 0, 0, 4);
            holds(y, 0, 2, 3, 4, 5, 5);
            y = rows(x, sort, 5, 1);
            y.refused(5, "shift", 0, 0, 0, 0, 5);
            holds(y, 0, 1, 2, 3, 4, 5);
            y = rows(x, sort, 5, 5);
            y.due(2, "shift", 0, 3, 1, 0, 2);
            holds(y, 0, 1, 2, 3, 4, 5);
            holds(y, 1, 4, 5, 0, 0, 0);
        }
        Asked y = x.another();
        y.due(1, "row", 0, 4, 4);
        y.due(1, "put", 0, 0, 1);
        y.due(1, "put", 0, 1, 1);
        y.due(3, "shift", 0, 0, 0, 1, 3);
        holds(y, 0, 1, 1, 1, 0);
    }

    private static void shiftRefused(Asked x) {
        x.due(0, "body", 0);
        for (int sort = 0; sort < 3; sort++) {
            x.due(1, "row", sort, sort, 3);
        }
        x.due(1, "keep", 4, 0);
        int[][] bad = {{-1, 0}, {0, -1}, {6, 0}, {0, 6}, {-1, 3}, {3, 6}, {6, 4}};
        for (int[] a : bad) {
            x.refused(BAD, "shift", a[0], 0, a[1], 0, 1);
            x.refused(BAD, "shift", a[0], 9, a[1], 0, -1);
        }
        int[][] nothing = {{3, 0}, {0, 3}, {3, 4}, {4, 3}, {3, 5}, {3, 3}};
        for (int[] a : nothing) {
            x.refused(NOTHING, "shift", a[0], 0, a[1], 0, 1);
            x.refused(NOTHING, "shift", a[0], 9, a[1], 0, -1);
        }
        int[][] unlike = {{4, 0}, {0, 4}, {4, 4}, {0, 1}, {1, 0}, {1, 2}, {2, 1}};
        for (int[] a : unlike) {
            x.refused(OTHER_KIND, "shift", a[0], 0, a[1], 0, 1);
            x.refused(OTHER_KIND, "shift", a[0], 0, a[1], 0, 0);
            x.refused(OTHER_KIND, "shift", a[0], 9, a[1], 0, -1);
        }
        for (int sort = 0; sort < 5; sort++) {
            x.due(1, "row", 5, sort, 3);
            if (sort != 2) {
                x.refused(OTHER_KIND, "shift", 5, 0, 2, 0, 3);
            }
        }
        x.due(1, "row", 5, 2, 3);
        x.refused(NO_PLACE, "shift", 5, 0, 2, 0, 4);
        x.refused(3, "shift", 5, 0, 2, 0, 3);
    }

    // ---- promises 39 and 40

    private static void taken(Asked x) {
        String[] above = {"0", "10", "20", "310", "420", "50", "60", "760"};
        for (int kind = 0; kind < 8; kind++) {
            x.due(kind, "body", kind);
            x.due(1, "keep", 4, kind);
            x.refused(BAD, "taken", 4, -1);
            for (int k = 0; k < 8; k++) {
                if (above[kind].indexOf('0' + k) >= 0) {
                    x.due(kind, "taken", 4, k);
                } else {
                    x.refused(OTHER_KIND, "taken", 4, k);
                }
            }
            x.refused(BAD, "taken", 4, 8);
        }
    }

    private static void takenRefused(Asked x) {
        x.due(0, "body", 1);
        x.due(1, "keep", 1, 0);
        x.due(1, "row", 2, 2, 3);
        for (int k : new int[] {-1, 8, LEAST, MOST}) {
            x.refused(BAD, "taken", 0, k);
            x.refused(BAD, "taken", 1, k);
            x.refused(BAD, "taken", 2, k);
            x.refused(BAD, "taken", 6, k);
        }
        x.refused(BAD, "taken", -1, 0);
        x.refused(BAD, "taken", 6, 0);
        for (int k = 0; k < 8; k++) {
            x.refused(NOTHING, "taken", 0, k);
            x.refused(OTHER_KIND, "taken", 2, k);
        }
        x.due(1, "taken", 1, 0);
        x.due(1, "taken", 1, 1);
        x.refused(OTHER_KIND, "taken", 1, 3);
        x.due(1, "row", 1, 0, 0);
        x.refused(OTHER_KIND, "taken", 1, 0);
        x.due(1, "keep", 1, -1);
        x.refused(NOTHING, "taken", 1, 0);
    }

    private static void count(Asked x) {
        x.refused(BAD, "count", -1);
        for (int what = 0; what < 8; what++) {
            x.due(0, "count", what);
        }
        x.steps(3);
        x.laws("1", "2");
        for (int s = 0; s < 5; s++) {
            x.call("story", 0, 0, 0);
        }
        x.feed("hwkx");
        for (int v = 1; v <= 6; v++) {
            x.call("day", v);
        }
        for (int v = 1; v <= 8; v++) {
            x.call("depth", 0, v);
        }
        x.call("undo");
        for (int kind = 0; kind < 8; kind++) {
            x.call("body", kind);
        }
        x.call("body", 0);
        x.call("act", 7, 1, 1);
        int[] want = {3, 2, 5, 4, 6, 7, 9, 5};
        for (int what = 0; what < 8; what++) {
            x.due(want[what], "count", what);
        }
        x.refused(BAD, "count", 8);
        x.refused(BAD, "count", LEAST);
        x.refused(BAD, "count", MOST);
    }
}
