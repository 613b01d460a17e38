/** Promises 31 to 33: bounds of BODIES, of their ACTS and of THE TRACE. */
final class EdgesOfActs {
    private static final int BAD = -1, FULL = -3;
    private static final int LIES = 0, WEARS = 1, COUNTS = 2, TELLS = 3;
    private static final int LEAST = Integer.MIN_VALUE, MOST = Integer.MAX_VALUE;

    private EdgesOfActs() {
    }

    static void tell(Edges edges) {
        edges.test(31, "WEAR is kept by call as BODIES 0 .. 49, of KINDS:", EdgesOfActs::fifty);
        edges.test(31, "A WEAR of a KIND (0 .. 7) is kept: its number.", EdgesOfActs::kinds);
        edges.test(31, "BAD, FULL.", EdgesOfActs::badAheadOfFull);
        edges.test(32, "0 WEAR; 1 UP under WEAR; 2 DOWN under WEAR; 3 ABREAST under UP; 4 STUMBLED under DOWN; 5 WET under "
                + "WEAR; 6 TURNED under WEAR; 7 NEW under TURNED.", EdgesOfActs::under);
        edges.test(32, "ACTS with x (an int that wraps): 0 lies, 1 wears, 2 counts, 3 tells; n its number.",
                EdgesOfActs::wraps);
        edges.test(32, "BODIES of acts: LIES (an interface of WEAR): 1 lies: x + n. WEAR: 10 wears: lies(x) * 2. 11 counts: "
                + "x ^ n. TELLS (of WEAR): 2 tells: wears(x) - counts(1).", EdgesOfActs::wear);
        edges.test(32, "UP: 20 lies: super.lies(x) + 3. DOWN: 30 wears: -super.wears(x). ABREAST: 40 counts: "
                + "super.counts(x) * 2. 41 lies: super.lies(x + 1).", EdgesOfActs::upAndDown);
        edges.test(32, "STUMBLED: 50 tells: super.tells(x) ^ 5. WET: 60 counts: super.counts(x) - lies(2). TURNED: 70 "
                + "wears: super.wears(x) + counts(2). NEW: 80 lies: super.lies(x) * 3. 81 tells: super.tells(x) - 1.",
                EdgesOfActs::stumbledToNew);
        edges.test(32, "lies(..) and so on: the body of its own KIND, or of the next KIND above that has one;",
                EdgesOfActs::ownKind);
        edges.test(32, "super: from the KIND above the body's on.", EdgesOfActs::above);
        edges.test(32, "An ACT (0 .. 3) of a WEAR with x.", EdgesOfActs::acts);
        edges.test(32, "0, and no TRACE then: no such WEAR, ACT.", EdgesOfActs::noTrace);
        edges.test(33, "THE TRACE: numbers of the bodies that ran in the latest act(), as they began;", EdgesOfActs::latest);
        edges.test(33, "the first 24 are kept.", EdgesOfActs::kept);
        edges.test(33, "THE TRACE's i-th body. BAD.", EdgesOfActs::traceBad);
    }

    private static void fifty(Asked x) {
        x.due(0, "count", 6);
        for (int n = 0; n < 50; n++) {
            x.due(0, "act", n, LIES, 1000);
            x.refused(BAD, "keep", 0, n);
            x.due(n, "body", 0);
            x.due(1000 + n, "act", n, LIES, 1000);
        }
        x.refused(FULL, "body", 0);
        x.due(50, "count", 6);
        x.due(1000, "act", 0, LIES, 1000);
        x.due(1049, "act", 49, LIES, 1000);
        x.due(0, "act", 50, LIES, 1000);
        x.due(0, "act", -1, LIES, 1000);
    }

    private static void kinds(Asked x) {
        x.refused(BAD, "body", -1);
        for (int kind = 0; kind < 8; kind++) {
            x.due(kind, "body", kind);
            x.due(1, "keep", 0, kind);
            x.due(kind, "taken", 0, 0);
        }
        x.refused(BAD, "body", 8);
        x.refused(BAD, "body", LEAST);
        x.refused(BAD, "body", MOST);
        x.due(8, "body", 7);
    }

    private static void badAheadOfFull(Asked x) {
        for (int n = 0; n < 50; n++) {
            x.due(n, "body", n % 8);
        }
        x.refused(FULL, "body", 0);
        x.refused(FULL, "body", 7);
        x.refused(BAD, "body", 8);
        x.refused(BAD, "body", -1);
    }

    /** One WEAR of each KIND, so that a KIND's number is its n. */
    private static void all(Asked x) {
        for (int kind = 0; kind < 8; kind++) {
            x.due(kind, "body", kind);
        }
    }

    private static void under(Asked x) {
        all(x);
        String[] above = {"0", "10", "20", "310", "420", "50", "60", "760"};
        for (int kind = 0; kind < 8; kind++) {
            x.due(1, "keep", 2, kind);
            for (int k = 0; k < 8; k++) {
                x.due(above[kind].indexOf('0' + k) >= 0 ? kind : -12, "taken", 2, k);
            }
        }
    }

    private static void wraps(Asked x) {
        all(x);
        x.due(LEAST, "act", 1, LIES, MOST - 3);
        x.due(MOST, "act", 1, LIES, MOST - 4);
        x.due(-2, "act", 0, WEARS, MOST);
        x.due(0, "act", 0, WEARS, LEAST);
        x.due(LEAST, "act", 2, WEARS, (1 << 30) - 2);
        x.due(MOST * 3, "act", 7, LIES, MOST - 7);
        x.due(LEAST + 5, "act", 3, LIES, MOST - 1);
        x.due(LEAST, "act", 0, COUNTS, LEAST);
        x.due(MOST - 5, "act", 5, LIES, MOST - 10);
        x.due(LEAST, "act", 5, LIES, MOST - 4);
        x.due(2, "act", 3, COUNTS, LEAST + 2);
        x.due(-3, "act", 0, TELLS, MOST);
        x.due(0, "act", 0, LIES, 0);
        x.due(-1, "act", 0, LIES, -1);
    }

    private static void act(Asked x, int body, int act, int at, int want, int... trace) {
        Asked y = x.another();
        all(y);
        y.due(want, "act", body, act, at);
        y.due(trace.length, "count", 7);
        for (int i = 0; i < trace.length; i++) {
            y.due(trace[i], "trace", i);
        }
        y.refused(BAD, "trace", trace.length);
    }

    private static void wear(Asked x) {
        act(x, 0, LIES, 10, 10, 1);
        act(x, 0, WEARS, 10, 20, 10, 1);
        act(x, 0, COUNTS, 10, 10, 11);
        act(x, 0, TELLS, 10, 20 - 1, 2, 10, 1, 11);
    }

    private static void upAndDown(Asked x) {
        act(x, 1, LIES, 10, 11 + 3, 20, 1);
        act(x, 1, WEARS, 10, 28, 10, 20, 1);
        act(x, 1, COUNTS, 10, 11, 11);
        act(x, 1, TELLS, 10, 28 - 0, 2, 10, 20, 1, 11);
        act(x, 2, LIES, 10, 12, 1);
        act(x, 2, WEARS, 10, -24, 30, 10, 1);
        act(x, 2, COUNTS, 10, 8, 11);
        act(x, 2, TELLS, 10, -24 - 3, 2, 30, 10, 1, 11);
        act(x, 3, LIES, 10, 11 + 3 + 3, 41, 20, 1);
        act(x, 3, WEARS, 10, 34, 10, 41, 20, 1);
        act(x, 3, COUNTS, 10, 9 * 2, 40, 11);
        act(x, 3, TELLS, 10, 34 - 2 * 2, 2, 10, 41, 20, 1, 40, 11);
    }

    private static void stumbledToNew(Asked x) {
        act(x, 4, LIES, 10, 14, 1);
        act(x, 4, WEARS, 10, -28, 30, 10, 1);
        act(x, 4, COUNTS, 10, 14, 11);
        act(x, 4, TELLS, 10, (-28 - 5) ^ 5, 50, 2, 30, 10, 1, 11);
        act(x, 5, LIES, 10, 15, 1);
        act(x, 5, WEARS, 10, 30, 10, 1);
        act(x, 5, COUNTS, 10, 15 - 7, 60, 11, 1);
        act(x, 5, TELLS, 10, 30 - (4 - 7), 2, 10, 1, 60, 11, 1);
        act(x, 6, LIES, 10, 16, 1);
        act(x, 6, WEARS, 10, 32 + 4, 70, 10, 1, 11);
        act(x, 6, COUNTS, 10, 12, 11);
        act(x, 6, TELLS, 10, 36 - 7, 2, 70, 10, 1, 11, 11);
        act(x, 7, LIES, 10, 51, 80, 1);
        act(x, 7, WEARS, 10, 102 + 5, 70, 10, 80, 1, 11);
        act(x, 7, COUNTS, 10, 13, 11);
        act(x, 7, TELLS, 10, 107 - 6 - 1, 81, 2, 70, 10, 80, 1, 11, 11);
    }

    /** A body above calls what the WEAR's own KIND has: UP's wears asks ABREAST's lies. */
    private static void ownKind(Asked x) {
        act(x, 3, WEARS, 0, (0 + 1 + 3 + 3) * 2, 10, 41, 20, 1);
        act(x, 7, WEARS, 0, 7 * 3 * 2 + (2 ^ 7), 70, 10, 80, 1, 11);
        act(x, 1, WEARS, 0, 4 * 2, 10, 20, 1);
        act(x, 4, COUNTS, 0, 4, 11);
        act(x, 4, WEARS, 0, -8, 30, 10, 1);
        act(x, 5, TELLS, 0, 10 - ((1 ^ 5) - 7), 2, 10, 1, 60, 11, 1);
    }

    /** super asks the KIND above the body's, not above the WEAR's: DOWN's wears, run for STUMBLED, asks WEAR's. */
    private static void above(Asked x) {
        act(x, 4, WEARS, 1, -10, 30, 10, 1);
        act(x, 7, WEARS, 1, 8 * 3 * 2 + 5, 70, 10, 80, 1, 11);
        act(x, 3, LIES, 1, 1 + 1 + 3 + 3, 41, 20, 1);
        act(x, 3, COUNTS, 1, 2 * 2, 40, 11);
        act(x, 7, TELLS, 1, 53 - (1 ^ 7) - 1, 81, 2, 70, 10, 80, 1, 11, 11);
    }

    private static void acts(Asked x) {
        all(x);
        x.due(0, "act", 1, -1, 5);
        x.due(9, "act", 1, LIES, 5);
        x.due(18, "act", 1, WEARS, 5);
        x.due(4, "act", 1, COUNTS, 5);
        x.due(18, "act", 1, TELLS, 5);
        x.due(0, "act", 1, 4, 5);
        x.due(0, "act", 1, LEAST, 5);
        x.due(0, "act", 1, MOST, 5);
    }

    private static void noTrace(Asked x) {
        x.due(0, "act", 0, LIES, 5);
        x.due(0, "count", 7);
        x.refused(BAD, "trace", 0);
        all(x);
        int[][] none = {{-1, 0}, {8, 0}, {0, -1}, {0, 4}, {7, 4}, {7, -1}, {49, 0}, {50, 0}, {LEAST, 0}, {MOST, 3},
            {0, LEAST}, {0, MOST}};
        for (int[] a : none) {
            x.due(4, "act", 1, COUNTS, 5);
            x.due(1, "count", 7);
            x.due(11, "trace", 0);
            x.due(0, "act", a[0], a[1], 5);
            x.due(0, "count", 7);
            x.refused(BAD, "trace", 0);
        }
    }

    private static void latest(Asked x) {
        all(x);
        x.refused(BAD, "trace", 0);
        x.due(((8 + 7) * 3 * 2 + (2 ^ 7)) - (1 ^ 7) - 1, "act", 7, TELLS, 8);
        x.due(8, "count", 7);
        x.due(81, "trace", 0);
        x.due(11, "trace", 7);
        x.due(4, "act", 1, COUNTS, 5);
        x.due(11, "trace", 0);
        x.refused(BAD, "trace", 1);
        x.due(1, "count", 7);
        x.refused(BAD, "body", 8);
        x.refused(BAD, "keep", 0, 8);
        x.due(1, "keep", 0, 7);
        x.due(7, "taken", 0, 6);
        x.due(11, "trace", 0);
        x.due(9, "act", 1, LIES, 5);
        x.due(20, "trace", 0);
        x.due(1, "trace", 1);
        x.refused(BAD, "trace", 2);
    }

    /** No ACT has more than eight bodies, so all are kept, and no place from 8 on has one. */
    private static void kept(Asked x) {
        all(x);
        int most = 0;
        for (int body = 0; body < 8; body++) {
            for (int act = 0; act < 4; act++) {
                x.call("act", body, act, 1);
                most = Math.max(most, (int) x.call("count", 7));
            }
        }
        x.due(most, "count", 7);
        x.due(11, "trace", most - 1);
        for (int i : new int[] {most, 23, 24, 25}) {
            x.refused(BAD, "trace", i);
        }
    }

    private static void traceBad(Asked x) {
        x.refused(BAD, "trace", -1);
        x.refused(BAD, "trace", 0);
        all(x);
        x.due(9, "act", 1, LIES, 5);
        x.refused(BAD, "trace", -1);
        x.due(20, "trace", 0);
        x.due(1, "trace", 1);
        x.refused(BAD, "trace", 2);
        x.refused(BAD, "trace", LEAST);
        x.refused(BAD, "trace", MOST);
    }
}
