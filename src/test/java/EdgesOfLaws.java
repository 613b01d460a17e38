/** Promises 9 to 11: bounds of THE TAPE, of LAWS, of what a foot takes. */
final class EdgesOfLaws {
    private static final int BAD = -1, FULL = -3;
    private static final int LEAST = Integer.MIN_VALUE, MOST = Integer.MAX_VALUE;

    private EdgesOfLaws() {
    }

    static void tell(Edges edges) {
        edges.test(9, "n (1 .. 4) bytes come to THE TAPE, the lowest of v first: how many it has.", EdgesOfLaws::feed);
        edges.test(9, "by THE TAPE (at most 120 bytes)", EdgesOfLaws::tape);
        edges.test(9, "BAD, FULL.", EdgesOfLaws::badAheadOfFull);
        edges.test(10, "LAWS 0 .. 3 are TEXTS of what one FOOT takes of a CELL", EdgesOfLaws::numbers);
        edges.test(10, "THE TAPE becomes a LAW: its number; -100 less its FAULT; THE TAPE is empty then.",
                EdgesOfLaws::tapeIsEmptyThen);
        edges.test(10, "FULL (it stays).", EdgesOfLaws::tapeStays);
        edges.test(11, "(units; held within 0 .. 9999)", EdgesOfLaws::heldWithin);
        edges.test(11, "NAMES: h HARD, w WET, k UNLIKE", EdgesOfLaws::stone);
        edges.test(11, "x how far the CELL is from where one goes (0 .. 7)", EdgesOfLaws::howFar);
        edges.test(11, "d whether one goes down (1, 0)", EdgesOfLaws::down);
        edges.test(11, "s the shoe (0 .. 9)", EdgesOfLaws::shoe);
        edges.test(11, "b whether two go abreast", EdgesOfLaws::whetherAbreast);
        edges.test(11, "abreast: two go, at PATH and at 7 less PATH: both together.", EdgesOfLaws::bothTogether);
        edges.test(11, "TAKES of a LAW at a STEP, CELL, for one who goes at a CELL (PATH), down or not, in a shoe, "
                + "abreast or not: by that;", EdgesOfLaws::takesAtACell);
        edges.test(11, "TAKES of a LAW at a CELL (sc).", EdgesOfLaws::lawAndCell);
        edges.test(11, "pd: 1000 PATH, 100 whether down, 10 the shoe, whether abreast. BAD.", EdgesOfLaws::pathAndDown);
    }

    // ---- promise 9

    private static void feed(Asked x) {
        x.steps(1);
        x.refused(BAD, "feed", 0, 'h');
        x.refused(BAD, "feed", -1, 'h');
        x.due(1, "feed", 1, 0x2b39352b);
        x.due(3, "feed", 2, 0x7a7a2d39);
        x.due(7, "feed", 4, 0x38383838);
        x.refused(BAD, "feed", 5, 'h');
        x.refused(BAD, "feed", LEAST, 'h');
        x.refused(BAD, "feed", MOST, 'h');
        // Below the bytes stand + 9 - 8 8 8 8, of which the first goes with no TEXT.
        x.due(-100, "law");
        x.due(4, "feed", 4, '1' | '2' << 8 | '*' << 16 | '3' << 24);
        x.due(0, "law");
        x.due(36, "takes", 0, 0, 0);
        x.due(3, "feed", 3, '4' | '-' << 8 | '1' << 16 | '9' << 24);
        x.due(1, "law");
        x.due(3, "takes", 1, 0, 0);
        x.due(4, "feed", 4, -1);
        x.due(-100, "law");
        x.due(2, "feed", 2, 'h' | 128 << 8);
        x.due(-101, "law");
    }

    private static void fillTo(Asked x, int bytes) {
        for (long has = x.call("count", 3); has < bytes; has = x.call("count", 3)) {
            x.call("feed", Math.min(4, bytes - has), 0x31313131);
        }
    }

    private static void tape(Asked x) {
        x.due(0, "count", 3);
        fillTo(x, 117);
        x.refused(FULL, "feed", 4, 'h');
        x.due(118, "feed", 1, 'h');
        x.refused(FULL, "feed", 4, 'h');
        x.refused(FULL, "feed", 3, 'h');
        x.due(119, "feed", 1, 'h');
        x.refused(FULL, "feed", 2, 'h');
        x.due(120, "feed", 1, 'h');
        for (int n = 1; n <= 4; n++) {
            x.refused(FULL, "feed", n, 'h');
        }
        x.due(120, "count", 3);
        x.due(-104, "law");
        x.due(1, "feed", 1, 'h');
        for (int n = 1; n <= 4; n++) {
            Asked y = x.another();
            fillTo(y, 120 - n);
            y.due(120, "feed", n, 'h');
        }
    }

    private static void badAheadOfFull(Asked x) {
        fillTo(x, 120);
        x.refused(FULL, "feed", 1, 1);
        x.refused(BAD, "feed", 0, 1);
        x.refused(BAD, "feed", 5, 1);
        x.refused(FULL, "feed", 4, 1);
    }

    // ---- promise 10

    private static void numbers(Asked x) {
        x.steps(1);
        x.refused(BAD, "takes", 0, 0, 0);
        for (int law = 0; law < 4; law++) {
            x.feed("" + (law + 5));
            x.due(law, "law");
            x.due(law + 1, "count", 1);
            x.refused(BAD, "takes", law + 1, 0, 0);
        }
        x.feed("9");
        x.refused(FULL, "law");
        x.due(4, "count", 1);
        x.refused(BAD, "takes", -1, 0, 0);
        for (int law = 0; law < 4; law++) {
            x.due(law + 5, "takes", law, 0, 0);
        }
        x.refused(BAD, "takes", 4, 0, 0);
    }

    private static void tapeIsEmptyThen(Asked x) {
        x.due(-100, "law");
        x.feed("h+");
        x.due(-102, "law");
        x.due(0, "count", 3);
        x.due(0, "count", 1);
        x.due(-100, "law");
        x.feed("h");
        x.due(0, "law");
        x.due(0, "count", 3);
        x.due(-100, "law");
        x.due(1, "count", 1);
        x.feed("w");
        x.due(1, "count", 3);
        x.due(1, "law");
    }

    private static void tapeStays(Asked x) {
        x.laws("1", "2", "3");
        x.feed("+");
        x.due(-100, "law");
        x.laws("4");
        x.refused(FULL, "law");
        x.due(0, "count", 3);
        x.feed("h");
        x.refused(FULL, "law");
        x.due(1, "count", 3);
        x.feed("+");
        x.refused(FULL, "law");
        x.due(2, "count", 3);
        fillTo(x, 120);
        x.refused(FULL, "law");
        x.due(120, "count", 3);
        x.refused(FULL, "feed", 1, 1);
    }

    // ---- promise 11

    private static void heldWithin(Asked x) {
        x.steps(1);
        String[] texts = {"9998", "9999", "9999+1", "9999*9", "0", "1", "0-1", "-9999", "8192*8192*32",
            "8192*8192*32-1", "8192*8192*64", "1?9999+1;5", "1?0-1;5"};
        int[] want = {9998, 9999, 9999, 9999, 0, 1, 0, 0, 0, 9999, 0, 9999, 0};
        for (int i = 0; i < texts.length; i++) {
            Asked y = x.another();
            y.steps(1);
            y.laws(texts[i]);
            y.due(want[i], "takes", 0, 0, 0);
        }
        x.laws("9999+b", "b*5-x", "-b", "x*9999");
        x.due(9999 + 9999, "takes", 0, 0, 1);
        x.due(5 + 0, "takes", 1, 0, 1);
        x.due(0, "takes", 2, 0, 1);
        x.due(0, "takes", 3, 0, 0);
        x.due(9999, "takes", 3, 1, 0);
        x.due(9999, "takes", 3, 7, 0);
        x.due(0 + 9999, "takes", 3, 7, 1);
    }

    private static void stone(Asked x) {
        x.laws("h", "w", "k");
        x.call("step", 10, 0, 99);
        x.call("step", 91, 0, 1);
        x.call("step", 50, 0, 1);
        x.call("step", 51, 0, 2);
        int[][] want = {{1, 0, 0}, {9, 1, 98}, {5, 0, 0}, {5, 1, 1}};
        for (int step = 0; step < want.length; step++) {
            for (int law = 0; law < 3; law++) {
                x.due(want[step][law], "takes", law, 10 * step, 0);
            }
        }
        x.due(9, "mend", 1, 0, 8);
        x.due(8, "takes", 0, 10, 0);
        x.due(99, "mend", 0, 1, 2);
        x.due(1, "takes", 2, 10, 0);
    }

    private static void howFar(Asked x) {
        x.steps(1);
        x.laws("x");
        for (int path = 0; path < 8; path++) {
            for (int c = 0; c < 8; c++) {
                x.due(Math.max(path, c) - Math.min(path, c), "takes", 0, c, 1000 * path);
            }
        }
    }

    private static void down(Asked x) {
        x.steps(1);
        x.laws("d", "!d", "7*d+2");
        x.due(0, "takes", 0, 0, 0);
        x.due(1, "takes", 0, 0, 100);
        x.refused(BAD, "takes", 0, 0, 200);
        x.due(1, "takes", 1, 0, 90);
        x.due(0, "takes", 1, 0, 190);
        x.due(2, "takes", 2, 0, 0);
        x.due(9, "takes", 2, 0, 100);
    }

    private static void shoe(Asked x) {
        x.steps(1);
        x.laws("s");
        x.refused(BAD, "takes", 0, 0, -10);
        for (int s = 0; s < 10; s++) {
            x.due(s, "takes", 0, 0, 10 * s);
            x.due(s + s, "takes", 0, 0, 7101 + 10 * s);
        }
        x.due(0, "takes", 0, 0, 100);
    }

    private static void whetherAbreast(Asked x) {
        x.steps(1);
        x.laws("b", "!b");
        x.due(0, "takes", 0, 0, 0);
        x.due(1 + 1, "takes", 0, 0, 1);
        x.refused(BAD, "takes", 0, 0, 2);
        x.due(1, "takes", 1, 0, 0);
        x.due(0, "takes", 1, 0, 1);
    }

    private static void bothTogether(Asked x) {
        x.steps(1);
        x.laws("x", "x=0", "7-x");
        for (int path = 0; path < 8; path++) {
            for (int c : new int[] {0, 3, 4, 7}) {
                int one = Math.abs(c - path);
                int other = Math.abs(c - (7 - path));
                x.due(one + other, "takes", 0, c, 1000 * path + 1);
                x.due((one == 0 ? 1 : 0) + (other == 0 ? 1 : 0), "takes", 1, c, 1000 * path + 1);
                x.due(one == 0 ? 1 : 0, "takes", 1, c, 1000 * path);
                x.due(7 - one + 7 - other, "takes", 2, c, 1000 * path + 1);
            }
        }
    }

    private static void takesAtACell(Asked x) {
        x.laws("x*1000+d*100+s*10+b", "h*10+w");
        x.call("step", 20, 0, 1);
        x.call("step", 91, 0, 1);
        x.due(0, "takes", 0, 0, 0);
        x.due(7000, "takes", 0, 17, 0);
        x.due(7000, "takes", 0, 10, 7000);
        x.due(190, "takes", 0, 17, 7190);
        x.due(191 + 7191, "takes", 0, 17, 7191);
        x.due(20, "takes", 1, 7, 0);
        x.due(91, "takes", 1, 17, 7190);
        x.due(91 + 91, "takes", 1, 10, 191);
    }

    private static void lawAndCell(Asked x) {
        x.refused(BAD, "takes", 0, 0, 0);
        x.laws("1");
        x.refused(BAD, "takes", 0, 0, 0);
        x.steps(2);
        for (int law : new int[] {-1, 1, 3, 4, LEAST, MOST}) {
            x.refused(BAD, "takes", law, 0, 0);
        }
        for (int sc : new int[] {-1, 8, 9, 18, 19, 20, LEAST, MOST}) {
            x.refused(BAD, "takes", 0, sc, 0);
        }
        for (int sc : new int[] {0, 7, 10, 17}) {
            x.due(1, "takes", 0, sc, 0);
        }
    }

    private static void pathAndDown(Asked x) {
        x.steps(1);
        x.laws("1");
        for (int pd : new int[] {0, 90, 100, 190, 1000, 7000, 7100, 7190}) {
            x.due(1, "takes", 0, 0, pd);
        }
        for (int pd : new int[] {1, 91, 101, 191, 7191}) {
            x.due(2, "takes", 0, 0, pd);
        }
        for (int pd : new int[] {-1, -10, -100, -1000, LEAST, 2, 9, 92, 192, 200, 201, 290, 900, 1200, 7192, 7200, 7900,
            7999, 8000, 8100, 10000, MOST}) {
            x.refused(BAD, "takes", 0, 0, pd);
        }
    }
}
