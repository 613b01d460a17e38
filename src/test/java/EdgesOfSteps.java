/** Promises 1 to 8: bounds of STEPS, of their MEASURES, of what is turned over. */
final class EdgesOfSteps {
    private static final int BAD = -1, FULL = -3, STATE = -5, NOTHING = -11, OTHER_KIND = -12;
    private static final int LEAST = Integer.MIN_VALUE, MOST = Integer.MAX_VALUE;

    private EdgesOfSteps() {
    }

    static void tell(Edges edges) {
        edges.test(1, "No steps.", EdgesOfSteps::noSteps);
        edges.test(1, "An object is used for at most 512 calls after it has been made", EdgesOfSteps::lastCall);
        edges.test(1, "All memory is the class's own.", EdgesOfSteps::ownMemory);
        edges.test(2, "STEPS 0 .. 39, as they come (from below):", EdgesOfSteps::numbers);
        edges.test(2, "HARD (1 .. 9)", EdgesOfSteps::hard);
        edges.test(2, "WET (1, 0)", EdgesOfSteps::wet);
        edges.test(2, "A STEP: its number. hw: 10 HARD and WET.", EdgesOfSteps::hardAndWet);
        edges.test(2, "SET in a YEAR (0 .. 2000)", EdgesOfSteps::year);
        edges.test(2, "RISE (1 .. 99 tenths of an inch)", EdgesOfSteps::rise);
        edges.test(2, "BAD, FULL.", EdgesOfSteps::badAheadOfFull);
        edges.test(3, "Of a STEP: 0 HARD, 1 WET, 2 SET, 3 RISE, 4 UNLIKE, 5 whether it was turned;", EdgesOfSteps::ofWhat);
        edges.test(3, "10 and CELL: its MEASURE.", EdgesOfSteps::ofCell);
        edges.test(3, "UNLIKE: the size of RISE less that of the STEP below it (0 of STEP 0).", EdgesOfSteps::unlike);
        edges.test(3, "BAD.", EdgesOfSteps::ofNoStep);
        edges.test(4, "Each has CELLS 0 .. 7 across", EdgesOfSteps::cells);
        edges.test(4, "with a MEASURE (0 .. 99999; 0 at first) of how deep it is.", EdgesOfSteps::measure);
        edges.test(4, "MEASURE of a CELL (sc: 10 times the STEP, and the CELL) becomes v: what it was. BAD.",
                EdgesOfSteps::depth);
        edges.test(5, "HARD (what 0), RISE (1) of a STEP becomes v: what it was. BAD.", EdgesOfSteps::mend);
        tellRows(edges);
        tellTurns(edges);
    }

    private static void tellRows(Edges edges) {
        edges.test(6, "DEPTHS FROM A ROW on a SHELF, from place i on, n (1 .. 8) of them: how many came.",
                EdgesOfSteps::howMany);
        edges.test(6, "DEPTHS FROM A ROW of ints, from a place on: MEASURES of CELLS 0, 1, .. of a STEP",
                EdgesOfSteps::fromAPlaceOn);
        edges.test(6, "n of them (8 at most)", EdgesOfSteps::eightAtMost);
        edges.test(6, "it ends where the row is missing", EdgesOfSteps::rowMissing);
        edges.test(6, "it ends where the row is missing, ends, or one is not so", EdgesOfSteps::rowEnds);
        edges.test(6, "or one is not so: those ahead are told", EdgesOfSteps::oneIsNotSo);
        edges.test(6, "those ahead are told (no CHANGES).", EdgesOfSteps::noChanges);
        edges.test(6, "BAD, -12 (no ROW of ints; a SHELF that holds nothing is missing).", EdgesOfSteps::noRowOfInts);
    }

    private static void tellTurns(Edges edges) {
        edges.test(7, "A STEP is TURNED over at a YEAR (not before SET)", EdgesOfSteps::notBeforeSet);
        edges.test(7, "what all its MEASURES were together. BAD.", EdgesOfSteps::together);
        edges.test(7, "TURNED over at a YEAR: a STEP's MEASURES are kept as those BELOW, it has 0 then and is SET in "
                + "that YEAR;", EdgesOfSteps::keptBelow);
        edges.test(7, "turned again they change about.", EdgesOfSteps::changeAbout);
        edges.test(8, "OLDER: of a turned STEP the sum of what lies BELOW; STATE: it was never turned.",
                EdgesOfSteps::older);
        edges.test(8, "OLDER. BAD; STATE.", EdgesOfSteps::badAheadOfState);
    }

    // ---- promises 1 and 2

    private static void noSteps(Asked x) {
        for (int what = 0; what < 8; what++) {
            x.due(0, "count", what);
        }
        x.refused(BAD, "of", 0, 0);
        x.refused(BAD, "depth", 0, 1);
        x.refused(BAD, "mend", 0, 0, 1);
        x.refused(BAD, "turn", 0, 2000);
        x.refused(BAD, "older", 0);
        x.refused(BAD, "rail", 0, 1, 0);
        x.refused(HollowSteps.VOID, "shape", 0, 0);
        x.refused(STATE, "undo");
        x.refused(STATE, "redo");
        x.refused(NOTHING, "taken", 0, 0);
        x.due(0, "step", 10, 0, 1);
        x.due(1, "count", 0);
    }

    private static void lastCall(Asked x) {
        x.steps(1);
        for (int n = 2; n < 511; n++) {
            x.due((n - 2) * 7, "depth", 7, (n - 1) * 7);
        }
        x.due(509 * 7, "of", 0, 17);
        x.due(39, "undo");
        Asked y = x.another();
        for (int n = 1; n < 512; n++) {
            y.due(BAD, "of", 0, 0);
        }
        y.due(0, "step", 10, 0, 1);
    }

    /** Two objects are told by turns; each has its own STEPS, LAW, counts, SHELVES and TRACE. */
    private static void ownMemory(Asked x) {
        Asked y = x.another();
        x.steps(2);
        y.steps(1);
        x.feed("h+");
        y.feed("9");
        x.feed("5");
        x.due(3, "count", 3);
        y.due(1, "count", 3);
        x.due(0, "law");
        y.due(0, "law");
        x.due(6, "takes", 0, 0, 0);
        y.due(9, "takes", 0, 0, 0);
        x.due(6, "takes", 0, 0, 0);
        x.due(0, "depth", 0, 5);
        y.due(0, "of", 0, 10);
        x.due(1, "day", 3);
        y.refused(STATE, "gate", 0);
        x.due(1, "row", 0, 2, 1);
        y.refused(NOTHING, "put", 0, 0, 1);
        x.due(0, "body", 7);
        x.due(6 + 2, "act", 0, 1, 1);
        y.refused(BAD, "trace", 0);
        y.refused(BAD, "step", 0, 0, 0);
        x.due(70, "trace", 0);
    }

    private static void numbers(Asked x) {
        for (int n = 0; n < 40; n++) {
            x.refused(BAD, "of", n, 2);
            x.due(n, "step", 10, 1000 + n, 1 + n);
        }
        x.refused(FULL, "step", 10, 0, 1);
        x.due(40, "count", 0);
        x.refused(BAD, "of", -1, 2);
        x.due(1000, "of", 0, 2);
        x.due(1039, "of", 39, 2);
        x.refused(BAD, "of", 40, 2);
        x.due(1, "of", 39, 4);
    }

    private static void hard(Asked x) {
        x.refused(BAD, "step", 0, 0, 1);
        x.refused(BAD, "step", 1, 0, 1);
        x.due(0, "step", 10, 0, 1);
        x.due(1, "of", 0, 0);
        x.due(1, "step", 20, 0, 1);
        x.due(2, "step", 80, 0, 1);
        x.due(3, "step", 91, 0, 1);
        x.due(9, "of", 3, 0);
        x.refused(BAD, "step", 100, 0, 1);
        x.refused(BAD, "step", 101, 0, 1);
    }

    private static void wet(Asked x) {
        x.due(0, "step", 50, 0, 1);
        x.due(0, "of", 0, 1);
        x.due(1, "step", 51, 0, 1);
        x.due(1, "of", 1, 1);
        x.refused(BAD, "step", 52, 0, 1);
        x.refused(BAD, "step", 59, 0, 1);
        x.due(5, "of", 1, 0);
    }

    private static void hardAndWet(Asked x) {
        x.refused(BAD, "step", 9, 0, 1);
        x.due(0, "step", 10, 0, 1);
        x.due(1, "step", 11, 0, 1);
        x.refused(BAD, "step", 12, 0, 1);
        x.refused(BAD, "step", 19, 0, 1);
        x.due(2, "step", 90, 0, 1);
        x.due(3, "step", 91, 0, 1);
        x.refused(BAD, "step", 92, 0, 1);
        for (int hw : new int[] {-1, -10, -11, -50, LEAST, MOST}) {
            x.refused(BAD, "step", hw, 0, 1);
        }
    }

    private static void year(Asked x) {
        x.refused(BAD, "step", 10, -1, 1);
        x.due(0, "step", 10, 0, 1);
        x.due(1, "step", 10, 1, 1);
        x.due(2, "step", 10, 1999, 1);
        x.due(3, "step", 10, 2000, 1);
        x.refused(BAD, "step", 10, 2001, 1);
        x.refused(BAD, "step", 10, LEAST, 1);
        x.refused(BAD, "step", 10, MOST, 1);
        x.due(0, "of", 0, 2);
        x.due(2000, "of", 3, 2);
    }

    private static void rise(Asked x) {
        x.refused(BAD, "step", 10, 0, 0);
        x.refused(BAD, "step", 10, 0, -1);
        x.due(0, "step", 10, 0, 1);
        x.due(1, "step", 10, 0, 2);
        x.due(2, "step", 10, 0, 98);
        x.due(3, "step", 10, 0, 99);
        x.refused(BAD, "step", 10, 0, 100);
        x.refused(BAD, "step", 10, 0, LEAST);
        x.refused(BAD, "step", 10, 0, MOST);
        x.due(1, "of", 0, 3);
        x.due(99, "of", 3, 3);
    }

    private static void badAheadOfFull(Asked x) {
        x.steps(39);
        x.refused(BAD, "step", 10, 0, 0);
        x.due(39, "step", 10, 0, 1);
        x.refused(FULL, "step", 10, 0, 1);
        x.refused(BAD, "step", 10, 0, 0);
        x.refused(BAD, "step", 10, 2001, 1);
        x.refused(BAD, "step", 9, 0, 1);
    }

    // ---- promises 3 to 5

    private static void ofWhat(Asked x) {
        x.call("step", 30, 1400, 60);
        x.call("step", 71, 1500, 66);
        x.refused(BAD, "of", 1, -1);
        int[] want = {7, 1, 1500, 66, 6, 0};
        for (int what = 0; what < 6; what++) {
            x.due(want[what], "of", 1, what);
        }
        for (int what : new int[] {6, 7, 8, 9, LEAST, MOST}) {
            x.refused(BAD, "of", 1, what);
        }
        x.due(0, "turn", 1, 1500);
        x.due(1, "of", 1, 5);
        x.due(0, "of", 0, 5);
        x.due(0, "turn", 1, 1500);
        x.due(1, "of", 1, 5);
    }

    private static void ofCell(Asked x) {
        x.steps(1);
        x.depths(0, 11, 12, 13, 14, 15, 16, 17, 18);
        x.refused(BAD, "of", 0, 9);
        for (int c = 0; c < 8; c++) {
            x.due(11 + c, "of", 0, 10 + c);
        }
        x.refused(BAD, "of", 0, 18);
        x.refused(BAD, "of", 0, 19);
        x.refused(BAD, "of", 0, 20);
    }

    private static void unlike(Asked x) {
        int[] rises = {99, 1, 1, 2, 1, 99};
        int[] want = {0, 98, 0, 1, 1, 98};
        for (int step = 0; step < rises.length; step++) {
            x.due(step, "step", 10, 0, rises[step]);
        }
        for (int step = 0; step < rises.length; step++) {
            x.due(want[step], "of", step, 4);
        }
        x.due(99, "mend", 0, 1, 1);
        x.due(0, "of", 0, 4);
        x.due(0, "of", 1, 4);
        x.due(99, "mend", 5, 1, 50);
        x.due(49, "of", 5, 4);
    }

    private static void ofNoStep(Asked x) {
        x.refused(BAD, "of", 0, 0);
        x.steps(2);
        x.refused(BAD, "of", -1, 0);
        x.due(1, "of", 0, 0);
        x.due(1, "of", 1, 0);
        x.refused(BAD, "of", 2, 0);
        x.refused(BAD, "of", LEAST, 0);
        x.refused(BAD, "of", MOST, 0);
    }

    private static void cells(Asked x) {
        x.refused(BAD, "depth", 0, 1);
        x.steps(40);
        x.refused(BAD, "depth", -1, 1);
        x.due(0, "depth", 0, 1);
        x.due(0, "depth", 7, 2);
        x.refused(BAD, "depth", 8, 1);
        x.refused(BAD, "depth", 9, 1);
        x.due(0, "depth", 10, 3);
        x.due(0, "depth", 397, 4);
        x.refused(BAD, "depth", 398, 1);
        x.refused(BAD, "depth", 399, 1);
        x.refused(BAD, "depth", 400, 1);
        x.due(1, "of", 0, 10);
        x.due(2, "of", 0, 17);
        x.due(3, "of", 1, 10);
        x.due(4, "of", 39, 17);
    }

    private static void measure(Asked x) {
        x.steps(1);
        for (int c = 0; c < 8; c++) {
            x.due(0, "of", 0, 10 + c);
        }
        x.refused(BAD, "depth", 3, -1);
        x.due(0, "depth", 3, 0);
        x.due(0, "depth", 3, 1);
        x.due(1, "depth", 3, 99998);
        x.due(99998, "depth", 3, 99999);
        x.refused(BAD, "depth", 3, 100000);
        x.refused(BAD, "depth", 3, LEAST);
        x.refused(BAD, "depth", 3, MOST);
        x.due(99999, "of", 0, 13);
        x.due(99999, "depth", 3, 0);
        x.due(0, "of", 0, 13);
    }

    private static void depth(Asked x) {
        x.steps(2);
        x.due(0, "depth", 12, 5);
        x.due(5, "depth", 12, 5);
        x.due(5, "depth", 12, 6);
        x.due(6, "of", 1, 12);
        x.due(0, "of", 1, 11);
        x.due(0, "of", 1, 13);
        x.due(0, "of", 0, 12);
        for (int sc : new int[] {-1, -10, -20, 8, 18, 20, LEAST, MOST}) {
            x.refused(BAD, "depth", sc, 1);
        }
    }

    private static void mend(Asked x) {
        x.refused(BAD, "mend", 0, 0, 1);
        x.steps(2);
        x.refused(BAD, "mend", 0, -1, 1);
        x.refused(BAD, "mend", 0, 2, 1);
        x.refused(BAD, "mend", 0, 0, 0);
        x.due(1, "mend", 0, 0, 9);
        x.refused(BAD, "mend", 0, 0, 10);
        x.due(9, "mend", 0, 0, 1);
        x.refused(BAD, "mend", 0, 1, 0);
        x.due(70, "mend", 0, 1, 1);
        x.due(1, "mend", 0, 1, 10);
        x.due(10, "mend", 0, 1, 99);
        x.refused(BAD, "mend", 0, 1, 100);
        x.due(1, "of", 0, 0);
        x.due(99, "of", 0, 3);
        x.due(70, "of", 1, 3);
        x.refused(BAD, "mend", -1, 0, 1);
        x.due(1, "mend", 1, 0, 2);
        x.refused(BAD, "mend", 2, 0, 1);
        x.refused(BAD, "mend", MOST, 1, 1);
        x.refused(BAD, "mend", 0, LEAST, 1);
        x.refused(BAD, "mend", 0, 0, MOST);
    }

    // ---- promise 6

    /** Two STEPS, and on SHELF 3 a ROW. */
    private static void row(Asked x, int sort, long... elements) {
        x.steps(2);
        x.due(1, "row", 3, sort, elements.length);
        for (int i = 0; i < elements.length; i++) {
            x.due(1, "put", 3, i, elements[i]);
        }
    }

    private static void holds(Asked x, int step, int... measures) {
        for (int c = 0; c < measures.length; c++) {
            x.due(measures[c], "of", step, 10 + c);
        }
    }

    private static void howMany(Asked x) {
        row(x, 2, 1, 2, 3, 4, 5, 6, 7, 8, 9);
        x.refused(BAD, "depths", 0, 3, 0, -1);
        x.refused(BAD, "depths", 0, 3, 0, 0);
        x.due(1, "depths", 0, 3, 0, 1);
        holds(x, 0, 1, 0, 0, 0, 0, 0, 0, 0);
        x.due(2, "depths", 0, 3, 0, 2);
        x.due(7, "depths", 0, 3, 1, 7);
        holds(x, 0, 2, 3, 4, 5, 6, 7, 8, 0);
        x.due(8, "depths", 0, 3, 1, 8);
        holds(x, 0, 2, 3, 4, 5, 6, 7, 8, 9);
        x.refused(BAD, "depths", 0, 3, 0, 9);
        x.refused(BAD, "depths", 0, 3, 0, LEAST);
        x.refused(BAD, "depths", 0, 3, 0, MOST);
    }

    private static void fromAPlaceOn(Asked x) {
        row(x, 2, 10, 20, 30, 40);
        x.due(1, "depths", 1, 3, 0, 1);
        holds(x, 1, 10, 0);
        x.due(1, "depths", 1, 3, 1, 1);
        holds(x, 1, 20, 0);
        x.due(2, "depths", 1, 3, 2, 2);
        holds(x, 1, 30, 40, 0, 0);
        x.due(1, "depths", 1, 3, 3, 2);
        holds(x, 1, 40, 40, 0, 0);
        holds(x, 0, 0, 0, 0, 0);
        x.refused(BAD, "depths", -1, 3, 0, 1);
        x.refused(BAD, "depths", 2, 3, 0, 1);
    }

    private static void eightAtMost(Asked x) {
        row(x, 2, 1, 2, 3, 4, 5, 6, 7, 8, 9, 10);
        x.due(8, "depths", 0, 3, 0, 8);
        holds(x, 0, 1, 2, 3, 4, 5, 6, 7, 8);
        holds(x, 1, 0, 0, 0, 0, 0, 0, 0, 0);
        x.due(1, "of", 0, 0);
        x.due(70, "of", 0, 3);
    }

    private static void rowMissing(Asked x) {
        row(x, 2, 5);
        x.depths(0, 7, 7);
        x.refused(0, "depths", 0, 2, 0, 1);
        x.refused(0, "depths", 0, 2, -1, 8);
        x.due(1, "keep", 3, -1);
        x.refused(0, "depths", 0, 3, 0, 8);
        holds(x, 0, 7, 7);
    }

    private static void rowEnds(Asked x) {
        row(x, 2, 11, 12, 13);
        x.depths(0, 7, 7, 7, 7);
        for (int i : new int[] {LEAST, -8, -1, 3, 4, 59, 60, MOST}) {
            x.refused(0, "depths", 0, 3, i, 8);
        }
        x.due(1, "depths", 0, 3, 2, 8);
        holds(x, 0, 13, 7, 7, 7);
        x.due(2, "depths", 0, 3, 1, 3);
        x.due(3, "depths", 0, 3, 0, 3);
        x.due(3, "depths", 0, 3, 0, 4);
        holds(x, 0, 11, 12, 13, 7);
        x.due(1, "row", 3, 2, 0);
        x.refused(0, "depths", 0, 3, 0, 1);
    }

    private static void oneIsNotSo(Asked x) {
        row(x, 2, 99998, 99999, 100000, 5, 1, 0, -1, 6);
        x.depths(0, 7, 7, 7, 7);
        x.due(2, "depths", 0, 3, 0, 4);
        holds(x, 0, 99998, 99999, 7, 7);
        x.refused(0, "depths", 0, 3, 2, 2);
        x.due(3, "depths", 0, 3, 3, 8);
        holds(x, 0, 5, 1, 0, 7);
        x.refused(0, "depths", 0, 3, 6, 2);
        x.due(1, "put", 3, 0, MOST);
        x.refused(0, "depths", 0, 3, 0, 1);
        x.due(1, "put", 3, 0, LEAST);
        x.refused(0, "depths", 0, 3, 0, 1);
        x.due(1, "put", 3, 0, 1L << 32);
        x.due(1, "depths", 0, 3, 0, 1);
        holds(x, 0, 0, 1, 0, 7);
    }

    private static void noChanges(Asked x) {
        row(x, 2, 5, 6, -1);
        x.depths(0, 1, 2, 3);
        x.due(2, "undo");
        x.due(2, "depths", 0, 3, 0, 3);
        x.due(2, "count", 5);
        x.due(0, "redo");
        holds(x, 0, 5, 6, 3);
        x.due(2, "undo");
        x.due(1, "undo");
        holds(x, 0, 5, 0, 0);
    }

    private static void noRowOfInts(Asked x) {
        for (int sort = 0; sort < 5; sort++) {
            Asked y = x.another();
            row(y, sort, 1, 1);
            if (sort == 2) {
                y.due(2, "depths", 0, 3, 0, 2);
            } else {
                y.refused(OTHER_KIND, "depths", 0, 3, 0, 2);
                y.refused(OTHER_KIND, "depths", 0, 3, 2, 2);
            }
            y.refused(BAD, "depths", 2, 3, 0, 2);
            y.refused(BAD, "depths", 0, 3, 0, 9);
            y.refused(0, "depths", 0, 0, 0, 2);
        }
        x.steps(1);
        x.call("body", 0);
        x.call("keep", 5, 0);
        x.refused(OTHER_KIND, "depths", 0, 5, 0, 1);
        x.refused(BAD, "depths", 0, 5, 0, 0);
        x.refused(BAD, "depths", 0, -1, 0, 1);
        x.refused(BAD, "depths", 0, 6, 0, 1);
        x.refused(BAD, "depths", 1, 5, 0, 1);
    }

    // ---- promises 7 and 8

    private static void notBeforeSet(Asked x) {
        x.steps(1);
        x.depths(0, 5);
        x.refused(BAD, "turn", 0, 1499);
        x.due(5, "turn", 0, 1500);
        x.due(1500, "of", 0, 2);
        x.due(0, "turn", 0, 1501);
        x.refused(BAD, "turn", 0, 1500);
        x.due(5, "turn", 0, 2000);
        x.refused(BAD, "turn", 0, 2001);
        x.refused(BAD, "turn", 0, 1999);
        x.due(0, "turn", 0, 2000);
        x.call("step", 10, 0, 1);
        x.refused(BAD, "turn", 1, -1);
        x.due(0, "turn", 1, 0);
        x.refused(BAD, "turn", 1, LEAST);
        x.refused(BAD, "turn", 1, MOST);
    }

    private static void together(Asked x) {
        x.refused(BAD, "turn", 0, 1500);
        x.steps(3);
        x.due(0, "turn", 0, 1500);
        x.depths(1, 99999, 99999, 99999, 99999, 99999, 99999, 99999, 99999);
        x.due(799992, "turn", 1, 1500);
        x.depths(2, 1, 0, 0, 0, 0, 0, 0, 2);
        x.due(3, "turn", 2, 1500);
        x.refused(BAD, "turn", -1, 1500);
        x.refused(BAD, "turn", 3, 1500);
    }

    private static void keptBelow(Asked x) {
        x.steps(3);
        for (int step = 0; step < 3; step++) {
            x.depths(step, 1, 2, 3, 4, 5, 6, 7, 8);
        }
        x.due(36, "turn", 1, 1600);
        for (int c = 0; c < 8; c++) {
            x.due(0, "of", 1, 10 + c);
            x.due(c + 1, "of", 0, 10 + c);
            x.due(c + 1, "of", 2, 10 + c);
        }
        x.due(36, "older", 1);
        x.due(1500, "of", 0, 2);
        x.due(1600, "of", 1, 2);
        x.due(1500, "of", 2, 2);
        x.due(0, "of", 0, 5);
        x.due(1, "of", 1, 5);
        x.due(1, "of", 1, 0);
        x.due(70, "of", 1, 3);
        x.due(0, "depth", 10, 9);
        x.due(36, "older", 1);
    }

    private static void changeAbout(Asked x) {
        x.steps(1);
        x.depths(0, 1, 2, 3, 4, 5, 6, 7, 8);
        x.due(36, "turn", 0, 1600);
        x.depths(0, 10, 0, 0, 0, 0, 0, 0, 20);
        x.due(30, "turn", 0, 1600);
        for (int c = 0; c < 8; c++) {
            x.due(c + 1, "of", 0, 10 + c);
        }
        x.due(30, "older", 0);
        x.due(36, "turn", 0, 1700);
        x.due(10, "of", 0, 10);
        x.due(0, "of", 0, 11);
        x.due(20, "of", 0, 17);
        x.due(36, "older", 0);
        x.due(1700, "of", 0, 2);
    }

    private static void older(Asked x) {
        x.steps(2);
        x.refused(STATE, "older", 0);
        x.depths(0, 99999, 99999, 99999, 99999, 99999, 99999, 99999, 99999);
        x.refused(STATE, "older", 0);
        x.due(799992, "turn", 0, 1500);
        x.due(799992, "older", 0);
        x.refused(STATE, "older", 1);
        x.due(0, "turn", 1, 1500);
        x.due(0, "older", 1);
        x.due(0, "turn", 0, 1500);
        x.due(0, "older", 0);
    }

    private static void badAheadOfState(Asked x) {
        x.refused(BAD, "older", 0);
        x.steps(2);
        x.refused(BAD, "older", -1);
        x.refused(STATE, "older", 0);
        x.refused(STATE, "older", 1);
        x.refused(BAD, "older", 2);
        x.refused(BAD, "older", LEAST);
        x.refused(BAD, "older", MOST);
    }
}
