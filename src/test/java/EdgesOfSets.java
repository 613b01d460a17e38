/** Promises 22 to 25: bounds of FITS, BEST, NEXT and SLIPPED. */
final class EdgesOfSets {
    private static final int BAD = -1, NOT = -2, BIG = -4;
    private static final int LEAST = Integer.MIN_VALUE, MOST = Integer.MAX_VALUE;

    private EdgesOfSets() {
    }

    static void tell(Edges edges) {
        edges.test(22, "FITS: sets of told STORIES (bits; at most 8 of them, else BIG):", EdgesOfSets::eight);
        edges.test(22, "those by which no CELL with a MEASURE above 0 (of all STEPS)", EdgesOfSets::measureAboveZero);
        edges.test(22, "is WORN by more than SLACK (0 .. 99999) more or less than its MEASURE:", EdgesOfSets::slack);
        edges.test(22, "how many; the least as bits.", EdgesOfSets::leastAsBits);
        edges.test(22, "how many (what 0), the least (1; NOT: none).", EdgesOfSets::none);
        edges.test(22, "BAD, BIG (ahead of NOT); NOT.", x -> orderOfAnswers(x, "fits"));
        edges.test(22, "NOT: no MEASURES.", x -> noMeasures(x, "fits"));
        edges.test(22, "FITS by a LAW of STORIES (bits):", EdgesOfSets::fitsBad);
        edges.test(23, "BEST: the set with the least sum of sizes of these differences over such CELLS;",
                EdgesOfSets::leastSum);
        edges.test(23, "of like ones the least as bits.", EdgesOfSets::likeSets);
        edges.test(23, "NOT: no MEASURES.", x -> noMeasures(x, "best"));
        edges.test(23, "BAD, BIG (ahead of NOT); NOT.", x -> orderOfAnswers(x, "best"));
        edges.test(23, "BEST by a LAW of STORIES: bits (what 0), the sum (1).", EdgesOfSets::bestBad);
        edges.test(24, "NEXT: the STEP (without MEASURES: all 0)", EdgesOfSets::withoutMeasures);
        edges.test(24, "at which two told sets of STORIES differ most (the greatest size over CELLS);",
                EdgesOfSets::differMost);
        edges.test(24, "of like ones the least; NOT: none, or they differ nowhere.", EdgesOfSets::differNowhere);
        edges.test(24, "NEXT by a LAW of two sets of STORIES. BAD; NOT.", EdgesOfSets::nextBad);
        edges.test(25, "SLIPPED: the STEP that is most UNLIKE (of like ones the least)", EdgesOfSets::mostUnlike);
        edges.test(25, "and by how much more is taken on it than if UNLIKE were 0, in thousandths (cut) of that",
                EdgesOfSets::howMuchMore);
        edges.test(25, "(by a LAW, down, at PATH's CELL, shoe 0; 0, if that is 0).", EdgesOfSets::ofNothing);
        edges.test(25, "SLIPPED by a LAW: the STEP (what 0), thousandths (1), PATH told. BAD;", EdgesOfSets::slippedBad);
        edges.test(25, "NOT: no STEP is UNLIKE.", EdgesOfSets::noneUnlike);
    }

    /** LAW 0 takes 10 at the PATH; STORY s goes there 1 << s times a day, one year: it wears 3 << s off CELL 0. */
    private static void told(Asked x, int steps, int stories) {
        x.steps(steps);
        x.laws("(x=0)*10");
        for (int s = 0; s < stories; s++) {
            x.due(s, "story", 15001501, 1000 << s, 0);
        }
    }

    // ---- promises 22 and 23

    private static void eight(Asked x) {
        x.steps(1);
        x.laws("(x=0)*10");
        for (int s = 0; s < 10; s++) {
            x.due(s, "story", 15001501, 1000, 0);
        }
        x.depths(0, 3);
        x.due(7, "fits", 0, 127, 0, 0);
        x.due(8, "fits", 0, 255, 0, 0);
        x.due(1, "fits", 0, 255, 0, 1);
        x.refused(BIG, "fits", 0, 511, 0, 0);
        x.refused(BIG, "fits", 0, 1023, 0, 0);
        x.due(8, "fits", 0, 0x3fc, 0, 0);
        x.due(4, "fits", 0, 0x3fc, 0, 1);
        x.due(256, "fits", 0, 0x3fc, 99999, 0);
        x.refused(BIG, "fits", 0, 0x3fd, 0, 1);
        x.due(4, "best", 0, 0x3fc, 0);
        x.due(0, "best", 0, 0x3fc, 1);
        x.refused(BIG, "best", 0, 0x3fd, 1);
        x.due(1, "fits", 0, 0, 3, 0);
        x.due(0, "fits", 0, 0, 3, 1);
        x.due(2, "fits", 0, 512, 3, 0);
        x.due(512, "fits", 0, 512, 0, 1);
    }

    private static void measureAboveZero(Asked x) {
        told(x, 40, 1);
        x.depths(0, 0, 0, 0, 50);
        x.due(2, "fits", 0, 1, 50, 0);
        x.due(50, "depth", 3, 1);
        x.due(2, "fits", 0, 1, 1, 0);
        x.refused(NOT, "fits", 0, 1, 0, 1);
        x.due(0, "depth", 0, 1);
        x.due(1, "fits", 0, 1, 1, 0);
        x.due(0, "fits", 0, 1, 1, 1);
        x.due(1, "depth", 0, 0);
        x.due(2, "fits", 0, 1, 1, 0);
        x.due(0, "depth", 390, 1);
        x.due(1, "fits", 0, 1, 1, 0);
        x.due(2, "fits", 0, 1, 2, 0);
        x.due(0, "depth", 397, 9);
        x.due(0, "fits", 0, 1, 8, 0);
        x.due(2, "fits", 0, 1, 9, 0);
    }

    private static void slack(Asked x) {
        x.steps(1);
        x.laws("(x=0)*10");
        x.due(0, "story", 15001501, 30000, 0);
        x.due(90, "worn", 0, 0, 1);
        x.depths(0, 100);
        x.refused(BAD, "fits", 0, 1, -1, 0);
        x.due(0, "fits", 0, 1, 0, 0);
        x.due(0, "fits", 0, 1, 9, 0);
        x.due(1, "fits", 0, 1, 10, 0);
        x.due(1, "fits", 0, 1, 10, 1);
        x.due(1, "fits", 0, 1, 11, 0);
        x.due(1, "fits", 0, 1, 99, 0);
        x.due(2, "fits", 0, 1, 100, 0);
        x.due(0, "fits", 0, 1, 100, 1);
        x.due(100, "depth", 0, 80);
        x.due(0, "fits", 0, 1, 9, 0);
        x.due(1, "fits", 0, 1, 10, 0);
        x.due(80, "depth", 0, 90);
        x.due(1, "fits", 0, 1, 0, 0);
        x.due(1, "fits", 0, 1, 0, 1);
        x.due(90, "depth", 0, 99999);
        x.due(0, "fits", 0, 0, 99998, 0);
        x.due(1, "fits", 0, 0, 99999, 0);
        x.due(2, "fits", 0, 1, 99999, 0);
        x.refused(BAD, "fits", 0, 1, 100000, 0);
        x.refused(BAD, "fits", 0, 1, LEAST, 0);
        x.refused(BAD, "fits", 0, 1, MOST, 0);
    }

    private static void leastAsBits(Asked x) {
        told(x, 1, 4);
        x.depths(0, 9);
        x.due(1, "fits", 0, 15, 0, 0);
        x.due(3, "fits", 0, 15, 0, 1);
        x.due(3, "fits", 0, 15, 3, 0);
        x.due(2, "fits", 0, 15, 3, 1);
        x.due(7, "fits", 0, 15, 9, 0);
        x.due(0, "fits", 0, 15, 9, 1);
        x.due(1, "fits", 0, 10, 3, 0);
        x.due(2, "fits", 0, 10, 3, 1);
        x.due(1, "fits", 0, 12, 3, 0);
        x.due(4, "fits", 0, 12, 3, 1);
        x.due(3, "fits", 0, 13, 6, 0);
        x.due(1, "fits", 0, 13, 6, 1);
        x.due(16, "fits", 0, 15, 36, 0);
        x.due(15, "fits", 0, 15, 35, 0);
    }

    private static void none(Asked x) {
        told(x, 1, 2);
        x.depths(0, 4);
        x.due(0, "fits", 0, 3, 0, 0);
        x.refused(NOT, "fits", 0, 3, 0, 1);
        x.due(1, "fits", 0, 3, 1, 0);
        x.due(1, "fits", 0, 3, 1, 1);
        x.due(0, "fits", 0, 0, 3, 0);
        x.refused(NOT, "fits", 0, 0, 3, 1);
        x.due(1, "fits", 0, 0, 4, 0);
        x.due(0, "fits", 0, 0, 4, 1);
    }

    /** fits or best, with what and with SLACK, where it has one. */
    private static void sets(Asked x, long want, String name, int law, int stories, int what) {
        long[] args = name.equals("fits") ? new long[] {law, stories, 0, what} : new long[] {law, stories, what};
        if (want < 0) {
            x.refused(want, name, args);
        } else {
            x.due(want, name, args);
        }
    }

    private static void orderOfAnswers(Asked x, String name) {
        sets(x, BAD, name, 0, 0, 0);
        told(x, 1, 10);
        for (int what = 0; what < 2; what++) {
            sets(x, NOT, name, 0, 255, what);
            sets(x, BIG, name, 0, 511, what);
            sets(x, BIG, name, 0, 1023, what);
            sets(x, BAD, name, 0, 1024, what);
            sets(x, BAD, name, 1, 1023, what);
        }
        sets(x, BAD, name, 0, 1023, 2);
        sets(x, BAD, name, 0, 1023, -1);
        sets(x, BAD, name, 0, 255, 2);
        x.depths(0, 3);
        sets(x, BIG, name, 0, 511, 0);
        sets(x, BAD, name, 0, 511, 2);
        sets(x, 1, name, 0, 255, name.equals("fits") ? 1 : 0);
    }

    private static void noMeasures(Asked x, String name) {
        x.laws("(x=0)*10");
        sets(x, NOT, name, 0, 0, 0);
        x.steps(2);
        sets(x, NOT, name, 0, 0, 0);
        x.due(0, "story", 15001501, 1000, 700);
        sets(x, NOT, name, 0, 1, 0);
        sets(x, NOT, name, 0, 1, 1);
        x.due(0, "depth", 17, 3);
        sets(x, 1, name, 0, 1, 0);
        x.due(3, "depth", 17, 0);
        sets(x, NOT, name, 0, 1, 0);
        sets(x, NOT, name, 0, 0, 1);
        x.due(0, "depth", 17, 3);
        sets(x, 1, name, 0, 1, 0);
        x.due(3, "turn", 1, 1500);
        sets(x, NOT, name, 0, 1, 0);
    }

    private static void fitsBad(Asked x) {
        x.refused(BAD, "fits", 0, 0, 0, 0);
        told(x, 1, 2);
        x.depths(0, 3);
        x.due(1, "fits", 0, 3, 0, 0);
        x.refused(BAD, "fits", 0, 4, 0, 0);
        x.refused(BAD, "fits", 0, 3, 0, -1);
        x.refused(BAD, "fits", 0, 3, 0, 2);
        for (int out : new int[] {-1, 7, 1024, LEAST, MOST}) {
            x.refused(BAD, "fits", out, 3, 0, 0);
            x.refused(BAD, "fits", 0, out, 0, 0);
        }
        x.refused(BAD, "fits", 1, 3, 0, 0);
    }

    private static void leastSum(Asked x) {
        told(x, 2, 3);
        x.depths(0, 7);
        x.due(2, "best", 0, 7, 0);
        x.due(1, "best", 0, 7, 1);
        x.due(7, "depth", 0, 8);
        x.due(3, "best", 0, 7, 0);
        x.due(1, "best", 0, 7, 1);
        x.due(8, "depth", 0, 99999);
        x.due(7, "best", 0, 7, 0);
        x.due(99999 - 21, "best", 0, 7, 1);
        x.due(99999, "depth", 0, 9);
        x.due(0, "depth", 10, 3);
        x.due(0, "depth", 7, 5);
        // CELL 0 tells 9, the STEP above 3, and nothing is worn off CELL 7: 1 is off by 6 + 0 + 5, 2 by 3 + 3 + 5.
        x.due(1, "best", 0, 7, 0);
        x.due(11, "best", 0, 7, 1);
        x.due(2, "best", 0, 6, 0);
        x.due(11, "best", 0, 6, 1);
        x.due(0, "best", 0, 0, 0);
        x.due(17, "best", 0, 0, 1);
        Asked y = x.another();
        told(y, 40, 0);
        for (int sc = 0; sc < 398; sc++) {
            if (sc % 10 < 8) {
                y.call("depth", sc, 99999);
            }
        }
        y.due(320 * 99999, "best", 0, 0, 1);
    }

    private static void likeSets(Asked x) {
        x.steps(1);
        x.laws("(x=0)*10");
        for (int ups : new int[] {3, 2, 1, 1}) {
            x.call("story", 15001501, 1000 * ups, 0);
        }
        x.depths(0, 9);
        x.due(1, "best", 0, 15, 0);
        x.due(0, "best", 0, 15, 1);
        x.due(6, "best", 0, 14, 0);
        x.due(9, "depth", 0, 3);
        x.due(4, "best", 0, 15, 0);
        x.due(8, "best", 0, 11, 0);
        x.due(3, "depth", 0, 6);
        x.due(2, "best", 0, 15, 0);
        x.due(12, "best", 0, 13, 0);
        // More and less count alike: nothing and 6 are off 3 by as much.
        x.due(6, "depth", 0, 3);
        x.due(0, "best", 0, 2, 0);
        x.due(3, "best", 0, 2, 1);
        x.due(3, "depth", 0, 4);
        x.due(2, "best", 0, 2, 0);
        x.due(4, "depth", 0, 2);
        x.due(0, "best", 0, 2, 0);
    }

    private static void bestBad(Asked x) {
        x.refused(BAD, "best", 0, 0, 0);
        told(x, 1, 2);
        x.depths(0, 4);
        x.refused(BAD, "best", 0, 3, -1);
        x.due(1, "best", 0, 3, 0);
        x.due(1, "best", 0, 3, 1);
        x.refused(BAD, "best", 0, 3, 2);
        x.refused(BAD, "best", 0, 4, 0);
        x.refused(BAD, "best", 1, 3, 0);
        for (int out : new int[] {-1, 7, 1024, LEAST, MOST}) {
            x.refused(BAD, "best", out, 3, 0);
            x.refused(BAD, "best", 0, out, 0);
        }
    }

    // ---- promise 24

    private static void withoutMeasures(Asked x) {
        told(x, 3, 1);
        x.due(0, "next", 0, 0, 1);
        x.due(0, "depth", 7, 1);
        x.due(1, "next", 0, 0, 1);
        x.due(0, "depth", 10, 99999);
        x.due(2, "next", 0, 0, 1);
        x.due(1, "depth", 7, 0);
        x.due(0, "next", 0, 0, 1);
        x.due(0, "depth", 0, 1);
        x.due(0, "depth", 23, 1);
        x.refused(NOT, "next", 0, 0, 1);
        x.due(1, "turn", 2, 1500);
        x.due(2, "next", 0, 0, 1);
    }

    private static void differMost(Asked x) {
        x.laws("h*10*(x=0)");
        x.call("step", 20, 1500, 1);
        x.call("step", 30, 1500, 1);
        x.call("step", 20, 1500, 1);
        x.due(0, "story", 15001501, 1000, 700);
        x.due(1, "story", 15001501, 2000, 0);
        x.due(1, "next", 0, 1, 2);
        x.due(1, "next", 0, 2, 1);
        x.due(1, "next", 0, 0, 1);
        x.due(3, "mend", 1, 0, 2);
        x.due(0, "next", 0, 1, 2);
        x.due(2, "mend", 2, 0, 3);
        x.due(2, "next", 0, 1, 2);
        // The greatest CELL counts, not all together: two of 6 are less than one of 9.
        Asked z = x.another();
        z.laws("w?20*(x<2);30*(x=0)");
        z.call("step", 11, 1500, 1);
        z.call("step", 10, 1500, 1);
        z.due(0, "story", 15001501, 1000, 0);
        z.due(1, "next", 0, 0, 1);
        // Both are worn by more than can be told, the second by a year's more.
        Asked y = x.another();
        y.laws("9999");
        y.call("step", 10, 1, 1);
        y.call("step", 10, 0, 1);
        y.due(0, "story", 2000, 999999, 0);
        y.due(2000000000, "worn", 0, 0, 1);
        y.due(2000000000, "worn", 0, 10, 1);
        y.due(1, "next", 0, 0, 1);
        y.due(1, "next", 0, 1, 0);
    }

    private static void differNowhere(Asked x) {
        x.laws("1", "0");
        x.refused(NOT, "next", 0, 0, 0);
        x.steps(3);
        x.refused(NOT, "next", 0, 0, 0);
        x.due(0, "story", 15001501, 3000, 0);
        x.refused(NOT, "next", 0, 0, 1);
        x.due(1, "story", 15001501, 4000, 0);
        x.due(0, "next", 0, 0, 2);
        x.due(0, "next", 0, 1, 2);
        x.due(0, "next", 0, 3, 1);
        x.refused(NOT, "next", 0, 2, 3);
        x.refused(NOT, "next", 0, 2, 2);
        x.refused(NOT, "next", 1, 0, 2);
        // There is no CELL 8 off the PATH, neither above CELL 7 nor below CELL 0.
        x.laws("(x>7)*99");
        x.due(2, "story", 15001501, 4000, 700);
        x.refused(NOT, "next", 2, 0, 2);
        x.refused(NOT, "next", 2, 0, 4);
        for (int step = 0; step < 3; step++) {
            x.due(step, "next", 0, 0, 2);
            x.due(0, "depth", 10 * step, 1);
        }
        x.refused(NOT, "next", 0, 0, 2);
    }

    private static void nextBad(Asked x) {
        x.refused(BAD, "next", 0, 0, 0);
        told(x, 1, 2);
        x.due(0, "next", 0, 0, 3);
        x.due(0, "next", 0, 3, 0);
        x.refused(BAD, "next", 0, 4, 0);
        x.refused(BAD, "next", 0, 0, 4);
        x.refused(BAD, "next", 1, 0, 3);
        for (int out : new int[] {-1, 7, 1024, LEAST, MOST}) {
            x.refused(BAD, "next", out, 0, 1);
            x.refused(BAD, "next", 0, out, 1);
            x.refused(BAD, "next", 0, 1, out);
        }
        x.depths(0, 1);
        x.refused(NOT, "next", 0, 0, 3);
        x.refused(BAD, "next", 0, 0, 4);
    }

    // ---- promise 25

    private static void mostUnlike(Asked x) {
        x.laws("k");
        for (int rise : new int[] {50, 50, 51, 51, 50}) {
            x.call("step", 10, 0, rise);
        }
        x.due(2, "slipped", 0, 0, 0);
        x.due(50, "mend", 4, 1, 49);
        x.due(4, "slipped", 0, 0, 0);
        x.due(51, "mend", 2, 1, 52);
        x.due(2, "slipped", 0, 0, 0);
        x.due(50, "mend", 0, 1, 99);
        x.due(1, "slipped", 0, 0, 0);
        x.due(99, "mend", 0, 1, 50);
        x.due(2, "slipped", 0, 0, 0);
        x.due(49, "mend", 4, 1, 1);
        x.due(4, "slipped", 0, 0, 0);
        x.steps(1);
        x.due(5, "slipped", 0, 0, 0);
    }

    private static void slipped(Asked x, String law, int rise, int thousandths) {
        Asked y = x.another();
        y.laws(law);
        y.call("step", 10, 0, 50);
        y.call("step", 21, 0, rise);
        for (int path = 0; path < 8; path++) {
            y.due(1, "slipped", 0, path, 0);
            y.due(thousandths, "slipped", 0, path, 1);
        }
    }

    private static void howMuchMore(Asked x) {
        slipped(x, "3+k", 51, 333);
        slipped(x, "3+k", 49, 333);
        slipped(x, "3+k", 52, 666);
        slipped(x, "3+k", 53, 1000);
        slipped(x, "1000+k", 51, 1);
        slipped(x, "1001+k", 51, 0);
        slipped(x, "7", 51, 0);
        slipped(x, "1+k*9998", 51, 9998000);
        slipped(x, "1+k*9999", 51, 9998000);
        slipped(x, "9-k", 51, -111);
        slipped(x, "9-k*9", 51, -1000);
        slipped(x, "1001-k", 51, 0);
    }

    private static void ofNothing(Asked x) {
        slipped(x, "k", 51, 0);
        slipped(x, "0", 51, 0);
        slipped(x, "k-1", 51, 0);
        slipped(x, "k*99", 99, 0);
        slipped(x, "1+k", 51, 1000);
        // Down, at the CELL that one goes at, by shoe 0, alone, on the STEP as it is.
        slipped(x, "d*(1+k*2)", 51, 2000);
        slipped(x, "!d*5*k+2", 51, 0);
        slipped(x, "x*k+1", 51, 0);
        slipped(x, "s*k+1", 51, 0);
        slipped(x, "b*k+1", 51, 0);
        slipped(x, "x*5+k+1", 51, 1000);
        slipped(x, "s*5+k+1", 51, 1000);
        slipped(x, "b*5+k+1", 51, 1000);
        slipped(x, "d*5+k*6", 51, 1200);
        slipped(x, "h*k+1", 51, 2000);
        slipped(x, "w*k+1", 51, 1000);
    }

    private static void slippedBad(Asked x) {
        x.refused(BAD, "slipped", 0, 0, 0);
        x.laws("1");
        x.call("step", 10, 0, 50);
        x.call("step", 10, 0, 51);
        x.refused(BAD, "slipped", 0, -1, 0);
        x.due(1, "slipped", 0, 0, 0);
        x.due(1, "slipped", 0, 7, 0);
        x.refused(BAD, "slipped", 0, 8, 0);
        x.refused(BAD, "slipped", 0, 0, -1);
        x.due(0, "slipped", 0, 0, 1);
        x.refused(BAD, "slipped", 0, 0, 2);
        for (int law : new int[] {-1, 1, 4, LEAST, MOST}) {
            x.refused(BAD, "slipped", law, 0, 0);
        }
        x.refused(BAD, "slipped", 0, LEAST, 0);
        x.refused(BAD, "slipped", 0, MOST, 0);
        x.refused(BAD, "slipped", 0, 0, LEAST);
        x.due(51, "mend", 1, 1, 50);
        x.refused(BAD, "slipped", 0, 8, 0);
    }

    private static void noneUnlike(Asked x) {
        x.laws("1+k");
        x.refused(NOT, "slipped", 0, 0, 0);
        x.call("step", 10, 0, 99);
        x.refused(NOT, "slipped", 0, 0, 0);
        x.refused(NOT, "slipped", 0, 0, 1);
        x.call("step", 90, 5, 99);
        x.refused(NOT, "slipped", 0, 0, 0);
        x.due(99, "mend", 1, 1, 98);
        x.due(1, "slipped", 0, 0, 0);
        x.due(1000, "slipped", 0, 0, 1);
        x.due(0, "undo");
        x.refused(NOT, "slipped", 0, 0, 0);
    }
}
