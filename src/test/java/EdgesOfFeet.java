/** Promises 18 to 21: bounds of FEET, of SHARES, of ANOTHER STAIR, of what a STEP set new tells. */
final class EdgesOfFeet {
    private static final int BAD = -1, NOT = -2;
    private static final int LEAST = Integer.MIN_VALUE, MOST = Integer.MAX_VALUE;

    private EdgesOfFeet() {
    }

    static void tell(Edges edges) {
        edges.test(18, "FEET that a MEASURE tells: by a LAW, PATH, shoes from s to s2 (not less), HALF of them up:",
                EdgesOfFeet::shoes);
        edges.test(18, "MEASURE times 1000 by the mean (cut) of what one takes up and down:", EdgesOfFeet::mean);
        edges.test(18, "the least over shoes (cut), the greatest (up);", EdgesOfFeet::leastAndGreatest);
        edges.test(18, "NOT: for some shoe it is 0.", EdgesOfFeet::someShoe);
        edges.test(18, "it is 0. (2000000000 at most.)", EdgesOfFeet::mostFeet);
        edges.test(18, "FEET of a CELL (sc) by a LAW: least (what 0), greatest (1).", EdgesOfFeet::feetWhat);
        edges.test(18, "pss: 100 PATH, 10 s, s2. BAD; NOT.", EdgesOfFeet::pathAndShoes);
        edges.test(19, "SHARES: of a STEP by a LAW, PATH, shoe: thousands a (ups), b (downs), each 0 .. 60",
                EdgesOfFeet::sixty);
        edges.test(19, "for which the sum over CELLS of sizes of MEASURE less (a and b times what one takes up, down, "
                + "of a CELL) is least;", EdgesOfFeet::leastSum);
        edges.test(19, "of like ones the least a, then b; that sum.", EdgesOfFeet::likeShares);
        edges.test(19, "SHARES of a STEP by a LAW: a (what 0), b (1), the sum (2).", EdgesOfFeet::sharesWhat);
        edges.test(19, "ps: 10 PATH and the shoe. BAD.", EdgesOfFeet::pathAndShoe);
        edges.test(20, "ANOTHER STAIR: over all STEPS with MEASURES (some above 0): a less b, together.",
                EdgesOfFeet::anotherStair);
        edges.test(20, "BAD; NOT: no MEASURES.", EdgesOfFeet::noMeasures);
        edges.test(20, "ANOTHER STAIR by a LAW. BAD;", EdgesOfFeet::anotherBad);
        tellNew(edges);
    }

    private static void tellNew(Edges edges) {
        edges.test(21, "NEW: a STEP that was SET later tells how much is taken a year: its deepest MEASURE by (a YEAR "
                + "told less SET): thousandths (cut);", EdgesOfFeet::yearly);
        edges.test(21, "and so of another STEP since when it would be as deep as it is: YEAR less (its deepest MEASURE "
                + "times 1000 by that, cut);", EdgesOfFeet::sinceWhen);
        edges.test(21, "NOT: SET is not ahead of YEAR", EdgesOfFeet::notAhead);
        edges.test(21, "or nothing is taken (the cut number is 0).", EdgesOfFeet::nothingTaken);
        edges.test(21, "NEW by a YEAR (0 .. 2000): of a STEP how much a year (what 0);", EdgesOfFeet::newYears);
        edges.test(21, "since when another one (what 1; ss: 100 times the one and the other). BAD; NOT.",
                EdgesOfFeet::oneAndOther);
    }

    // ---- promise 18

    private static void shoes(Asked x) {
        x.steps(1);
        x.depths(0, 7);
        x.laws("(s+1)*7");
        x.due(1000, "feet", 0, 0, 0, 0);
        x.due(1000, "feet", 0, 0, 0, 1);
        x.due(500, "feet", 0, 0, 1, 0);
        x.due(1000, "feet", 0, 0, 1, 1);
        x.refused(BAD, "feet", 0, 0, 10, 0);
        x.due(500, "feet", 0, 0, 11, 0);
        x.due(500, "feet", 0, 0, 11, 1);
        x.refused(BAD, "feet", 0, 0, 54, 0);
        x.due(166, "feet", 0, 0, 55, 0);
        x.due(142, "feet", 0, 0, 56, 0);
        x.due(167, "feet", 0, 0, 56, 1);
        x.refused(BAD, "feet", 0, 0, 98, 0);
        x.due(100, "feet", 0, 0, 99, 0);
        x.due(100, "feet", 0, 0, 9, 0);
        x.due(1000, "feet", 0, 0, 9, 1);
    }

    private static void feet(Asked x, String law, int measure, int least, int greatest) {
        Asked y = x.another();
        y.steps(1);
        y.depths(0, measure);
        y.laws(law);
        y.due(least, "feet", 0, 0, 0, 0);
        y.due(greatest, "feet", 0, 0, 0, 1);
    }

    private static void mean(Asked x) {
        feet(x, "d?0;0", 7, NOT, NOT);
        feet(x, "d?1;0", 7, NOT, NOT);
        feet(x, "d?0;1", 7, NOT, NOT);
        feet(x, "d?1;1", 7, 7000, 7000);
        feet(x, "d?2;0", 7, 7000, 7000);
        feet(x, "d?2;1", 7, 7000, 7000);
        feet(x, "d?1;2", 7, 7000, 7000);
        feet(x, "d?2;2", 7, 3500, 3500);
        feet(x, "d?4;3", 6, 2000, 2000);
        feet(x, "d?9999;9999", 9999, 1000, 1000);
        feet(x, "d?9998;9999", 9998, 1000, 1000);
    }

    private static void leastAndGreatest(Asked x) {
        feet(x, "999", 999, 1000, 1000);
        feet(x, "999", 1, 1, 2);
        feet(x, "1000", 1, 1, 1);
        feet(x, "1001", 1, 0, 1);
        feet(x, "2000", 2, 1, 1);
        feet(x, "1999", 2, 1, 2);
        feet(x, "2001", 2, 0, 1);
        feet(x, "7", 1, 142, 143);
        feet(x, "7", 7, 1000, 1000);
        feet(x, "7", 0, 0, 0);
        // Of shoes 0 to 2 (means 3, 2, 4): 5000 / 4 and 5000 / 2; of 0 alone 1666 and 1667.
        x.steps(1);
        x.depths(0, 5);
        x.laws("s=0?3;s*2");
        x.due(1250, "feet", 0, 0, 2, 0);
        x.due(2500, "feet", 0, 0, 2, 1);
        x.due(1666, "feet", 0, 0, 0, 0);
        x.due(1667, "feet", 0, 0, 0, 1);
        x.due(1666, "feet", 0, 0, 1, 0);
        x.due(2500, "feet", 0, 0, 1, 1);
    }

    private static void someShoe(Asked x) {
        x.steps(1);
        x.laws("s>0", "s<9", "!(s=5)", "d*(s=3)+(s<3)");
        x.refused(NOT, "feet", 0, 0, 0, 0);
        x.refused(NOT, "feet", 0, 0, 9, 0);
        x.due(0, "feet", 0, 0, 19, 0);
        x.refused(NOT, "feet", 1, 0, 9, 1);
        x.due(0, "feet", 1, 0, 8, 1);
        x.refused(NOT, "feet", 1, 0, 99, 1);
        x.due(0, "feet", 2, 0, 4, 0);
        x.refused(NOT, "feet", 2, 0, 5, 0);
        x.refused(NOT, "feet", 2, 0, 46, 0);
        x.refused(NOT, "feet", 2, 0, 59, 0);
        x.due(0, "feet", 2, 0, 69, 0);
        x.due(0, "feet", 3, 0, 2, 0);
        x.refused(NOT, "feet", 3, 0, 3, 0);
        x.depths(0, 99999);
        x.refused(NOT, "feet", 0, 0, 9, 1);
        x.due(99999000, "feet", 0, 0, 19, 1);
    }

    /** The deepest MEASURE and the least mean tell 99999000, so 2000000000 are never told. */
    private static void mostFeet(Asked x) {
        feet(x, "1", 99999, 99999000, 99999000);
        feet(x, "1", 99998, 99998000, 99998000);
        feet(x, "9999", 99999, 10000, 10001);
    }

    private static void feetWhat(Asked x) {
        x.refused(BAD, "feet", 0, 0, 0, 0);
        x.laws("7-x");
        x.refused(BAD, "feet", 0, 0, 0, 0);
        x.steps(1);
        x.depths(0, 6, 0, 0, 0, 0, 0, 0, 8);
        x.refused(BAD, "feet", 0, 0, 0, -1);
        x.due(857, "feet", 0, 0, 0, 0);
        x.due(858, "feet", 0, 0, 0, 1);
        x.refused(BAD, "feet", 0, 0, 0, 2);
        x.due(0, "feet", 0, 6, 0, 0);
        x.refused(NOT, "feet", 0, 7, 0, 0);
        x.due(8000, "feet", 0, 7, 100, 0);
        for (int sc : new int[] {-1, 8, 9, 10, LEAST, MOST}) {
            x.refused(BAD, "feet", 0, sc, 0, 0);
        }
        for (int out : new int[] {-1, 1, 4, LEAST, MOST}) {
            x.refused(BAD, "feet", out, 0, 0, 0);
            x.refused(BAD, "feet", 0, 7, 0, out == 1 ? 2 : out);
        }
    }

    private static void pathAndShoes(Asked x) {
        x.steps(1);
        x.laws("1");
        for (int pss : new int[] {0, 1, 9, 11, 12, 19, 88, 89, 99, 100, 700, 709, 711, 799}) {
            x.due(0, "feet", 0, 0, pss, 0);
        }
        for (int pss : new int[] {-1, -11, -100, LEAST, 10, 20, 21, 87, 98, 110, 710, 798, 800, 811, 900, 1000,
            MOST}) {
            x.refused(BAD, "feet", 0, 0, pss, 0);
        }
        Asked y = x.another();
        y.steps(1);
        y.laws("(x=0)*(s+1)");
        y.depths(0, 2520, 2520, 2520, 2520, 2520, 2520, 2520, 2520);
        for (int path = 0; path < 8; path++) {
            for (int shoe = 0; shoe < 10; shoe++) {
                y.due(2520000 / (shoe + 1), "feet", 0, path, 100 * path + 11 * shoe, 0);
            }
            y.refused(NOT, "feet", 0, (path + 1) % 8, 100 * path + 99, 0);
        }
        x.laws("0");
        x.refused(NOT, "feet", 1, 0, 799, 0);
        x.refused(BAD, "feet", 1, 0, 798, 0);
        x.refused(BAD, "feet", 1, 0, 800, 0);
    }

    // ---- promise 19

    private static void shares(Asked x, String law, int a, int b, int sum, int... measures) {
        Asked y = x.another();
        y.steps(1);
        y.laws(law);
        y.depths(0, measures);
        y.due(a, "shares", 0, 0, 0, 0);
        y.due(b, "shares", 0, 0, 0, 1);
        y.due(sum, "shares", 0, 0, 0, 2);
    }

    private static int[] eight(int measure) {
        int[] measures = new int[8];
        java.util.Arrays.fill(measures, measure);
        return measures;
    }

    private static void sixty(Asked x) {
        shares(x, "d?0;100", 0, 0, 0, eight(0));
        shares(x, "d?0;100", 1, 0, 0, eight(100));
        shares(x, "d?0;100", 59, 0, 0, eight(5900));
        shares(x, "d?0;100", 60, 0, 0, eight(6000));
        shares(x, "d?0;100", 60, 0, 800, eight(6100));
        shares(x, "d?0;100", 60, 0, 8 * 93999, eight(99999));
        shares(x, "d?100;0", 0, 1, 0, eight(100));
        shares(x, "d?100;0", 0, 59, 0, eight(5900));
        shares(x, "d?100;0", 0, 60, 0, eight(6000));
        shares(x, "d?100;0", 0, 60, 800, eight(6100));
        shares(x, "100", 60, 60, 0, eight(12000));
        shares(x, "100", 60, 60, 8, eight(12001));
        shares(x, "100", 59, 60, 0, eight(11900));
    }

    private static void leastSum(Asked x) {
        shares(x, "d?x;7-x", 10, 1, 0, 70, 61, 52, 43, 34, 25, 16, 7);
        shares(x, "d?x;7-x", 10, 1, 9, 70, 61, 52, 43, 34, 25, 16, 16);
        shares(x, "d?0;9", 0, 0, 8 * 4, eight(4));
        shares(x, "d?0;9", 1, 0, 8 * 4, eight(5));
        shares(x, "d?9;0", 0, 1, 8 * 4, eight(13));
        shares(x, "d?9;0", 0, 2, 8 * 4, eight(14));
        shares(x, "0", 0, 0, 8 * 99999, eight(99999));
        shares(x, "9999", 0, 10, 8 * 9, eight(99999));
        shares(x, "(x=7)*9*!d", 3, 0, 1000, 1000, 0, 0, 0, 0, 0, 0, 27);
        shares(x, "(x=0)*9*!d", 3, 0, 1000, 27, 0, 0, 0, 0, 0, 0, 1000);
    }

    private static void likeShares(Asked x) {
        shares(x, "100", 0, 60, 0, eight(6000));
        shares(x, "100", 1, 60, 0, eight(6100));
        shares(x, "100", 0, 1, 0, eight(100));
        shares(x, "(x=0)*100*!d", 1, 0, 50, 150, 0, 0, 0, 0, 0, 0, 0);
        shares(x, "(x=0)*100*d", 0, 1, 50, 150, 0, 0, 0, 0, 0, 0, 0);
        shares(x, "(x=0)*100*!d", 2, 0, 49, 151, 0, 0, 0, 0, 0, 0, 0);
        shares(x, "(x=0)*100*d", 0, 2, 49, 151, 0, 0, 0, 0, 0, 0, 0);
        // Either a and either b of two are as good.
        shares(x, "d?2*(x=1);2*(x=0)", 0, 0, 2, 1, 1, 0, 0, 0, 0, 0, 0);
        shares(x, "d?2*(x=1);2*(x=0)", 1, 1, 2, 3, 3, 0, 0, 0, 0, 0, 0);
        shares(x, "0", 0, 0, 8, eight(1));
    }

    private static void sharesWhat(Asked x) {
        x.refused(BAD, "shares", 0, 0, 0, 0);
        x.laws("d?2;3");
        x.refused(BAD, "shares", 0, 0, 0, 0);
        x.steps(2);
        x.depths(1, 8, 8, 8, 8, 8, 8, 8, 9);
        x.refused(BAD, "shares", 0, 1, 0, -1);
        x.due(0, "shares", 0, 1, 0, 0);
        x.due(4, "shares", 0, 1, 0, 1);
        x.due(1, "shares", 0, 1, 0, 2);
        x.refused(BAD, "shares", 0, 1, 0, 3);
        x.due(0, "shares", 0, 0, 0, 1);
        for (int out : new int[] {-1, 2, 40, LEAST, MOST}) {
            x.refused(BAD, "shares", out, 1, 0, 0);
            x.refused(BAD, "shares", 0, out, 0, 0);
            x.refused(BAD, "shares", 0, 1, 0, out == 2 ? 3 : out);
        }
        x.refused(BAD, "shares", 1, 1, 0, 0);
    }

    private static void pathAndShoe(Asked x) {
        x.steps(1);
        x.laws("(x=0)*s*!d");
        x.depths(0, 9, 0, 0, 0, 0, 0, 0, 18);
        x.due(0, "shares", 0, 0, 0, 0);
        x.due(9, "shares", 0, 0, 1, 0);
        x.due(1, "shares", 0, 0, 9, 0);
        x.due(0, "shares", 0, 0, 10, 0);
        x.due(18, "shares", 0, 0, 71, 0);
        x.due(2, "shares", 0, 0, 79, 0);
        for (int ps : new int[] {-1, -10, LEAST, 80, 81, 90, 100, MOST}) {
            x.refused(BAD, "shares", 0, 0, ps, 0);
            x.refused(BAD, "other", 0, ps);
        }
        // At each PATH another MEASURE, for one shoe alone: 0, 3 or 9.
        for (int shoe : new int[] {0, 3, 9}) {
            Asked y = x.another();
            y.steps(1);
            y.laws("(x=0)*!d*(s=" + shoe + ")");
            y.depths(0, 1, 2, 3, 4, 5, 6, 7, 8);
            for (int ps = 0; ps < 80; ps++) {
                int a = ps % 10 == shoe ? ps / 10 + 1 : 0;
                y.due(a, "shares", 0, 0, ps, 0);
                y.due(36 - a, "shares", 0, 0, ps, 2);
                y.due(a, "other", 0, ps);
            }
        }
    }

    // ---- promise 20

    private static void anotherStair(Asked x) {
        x.steps(40);
        x.laws("(x=0)*!d", "(x=0)*d", "x=0");
        x.due(0, "depth", 390, 1);
        x.due(1, "other", 0, 0);
        x.due(-1, "other", 1, 0);
        x.due(-1, "other", 2, 0);
        x.due(0, "depth", 0, 5);
        x.due(0, "depth", 10, 7);
        x.due(13, "other", 0, 0);
        x.due(-13, "other", 1, 0);
        for (int step = 0; step < 40; step++) {
            x.call("depth", 10 * step, 60 + step);
        }
        x.due(2400, "other", 0, 0);
        x.due(-2400, "other", 1, 0);
        // 60 + step feet of either kind: the least a is step, and b is 60.
        x.due(39 * 40 / 2 - 2400, "other", 2, 0);
    }

    private static void noMeasures(Asked x) {
        x.laws("1");
        x.refused(NOT, "other", 0, 0);
        x.steps(2);
        x.refused(NOT, "other", 0, 0);
        x.due(0, "depth", 17, 1);
        x.due(0, "other", 0, 0);
        x.due(1, "depth", 17, 0);
        x.refused(NOT, "other", 0, 0);
        x.due(0, "depth", 0, 1);
        x.due(0, "other", 0, 0);
        x.due(1, "turn", 0, 1500);
        x.refused(NOT, "other", 0, 0);
        x.due(0, "turn", 0, 1500);
        x.due(0, "other", 0, 0);
    }

    private static void anotherBad(Asked x) {
        x.refused(BAD, "other", 0, 0);
        x.laws("1");
        x.refused(NOT, "other", 0, 79);
        x.refused(BAD, "other", 0, 80);
        x.refused(BAD, "other", 0, -1);
        for (int law : new int[] {-1, 1, 4, LEAST, MOST}) {
            x.refused(BAD, "other", law, 0);
        }
    }

    // ---- promise 21

    private static void yearly(Asked x) {
        x.steps(1);
        x.depths(0, 3, 7, 2);
        x.due(7000, "renewed", 0, 1501, 0);
        x.due(3500, "renewed", 0, 1502, 0);
        x.due(2333, "renewed", 0, 1503, 0);
        x.due(1000, "renewed", 0, 1507, 0);
        x.due(875, "renewed", 0, 1508, 0);
        x.due(14, "renewed", 0, 2000, 0);
        x.due(0, "depth", 7, 99999);
        x.due(99999000, "renewed", 0, 1501, 0);
        x.due(199998, "renewed", 0, 2000, 0);
    }

    private static void sinceWhen(Asked x) {
        x.steps(3);
        x.depths(0, 0, 0, 0, 10);
        x.depths(1, 9, 0, 0, 0, 0, 0, 0, 20);
        x.due(2000, "renewed", 0, 1505, 0);
        x.due(1505 - 10, "renewed", 1, 1505, 1);
        x.due(1505 - 5, "renewed", 0, 1505, 1);
        x.due(1505, "renewed", 2, 1505, 1);
        x.due(20, "depth", 17, 1);
        x.due(1505 - 4, "renewed", 1, 1505, 1);
        x.due(9, "depth", 10, 1);
        x.due(1505, "renewed", 1, 1505, 1);
        x.due(1, "depth", 10, 2);
        x.due(1504, "renewed", 1, 1505, 1);
        x.due(10, "depth", 3, 1);
        x.due(2, "depth", 10, 99999);
        x.due(2, "renewed", 0, 2000, 0);
        x.due(2000 - 49999500, "renewed", 1, 2000, 1);
    }

    private static void notAhead(Asked x) {
        x.steps(2);
        x.depths(0, 5);
        x.depths(1, 5);
        x.refused(NOT, "renewed", 0, 1499, 0);
        x.refused(NOT, "renewed", 0, 1500, 0);
        x.due(5000, "renewed", 0, 1501, 0);
        x.refused(NOT, "renewed", 1, 1499, 1);
        x.refused(NOT, "renewed", 1, 1500, 1);
        x.due(1500, "renewed", 1, 1501, 1);
        // The other STEP's own SET is not asked for.
        x.due(5, "turn", 1, 2000);
        x.due(1501, "renewed", 1, 1501, 1);
        x.refused(NOT, "renewed", 100, 2000, 0);
        x.call("step", 10, 0, 1);
        x.refused(NOT, "renewed", 200, 0, 0);
        x.refused(NOT, "renewed", 200, 1, 0);
        x.due(0, "depth", 20, 1);
        x.refused(NOT, "renewed", 200, 0, 0);
        x.due(1000, "renewed", 200, 1, 0);
    }

    private static void nothingTaken(Asked x) {
        x.call("step", 10, 0, 1);
        x.steps(1);
        x.refused(NOT, "renewed", 0, 1, 0);
        x.due(0, "depth", 7, 1);
        x.due(1, "renewed", 0, 999, 0);
        x.due(1, "renewed", 0, 1000, 0);
        x.refused(NOT, "renewed", 0, 1001, 0);
        x.refused(NOT, "renewed", 0, 2000, 0);
        x.due(1000, "renewed", 1, 1000, 1);
        x.refused(NOT, "renewed", 1, 1001, 1);
        x.due(1, "depth", 7, 2);
        x.due(1, "renewed", 0, 2000, 0);
        x.due(2, "renewed", 0, 1000, 0);
        x.due(2, "depth", 7, 0);
        x.refused(NOT, "renewed", 0, 1, 0);
        x.refused(NOT, "renewed", 0, 1, 1);
    }

    private static void newYears(Asked x) {
        x.call("step", 10, 0, 1);
        x.depths(0, 5);
        x.refused(BAD, "renewed", 0, -1, 0);
        x.refused(NOT, "renewed", 0, 0, 0);
        x.due(5000, "renewed", 0, 1, 0);
        x.due(2, "renewed", 0, 2000, 0);
        x.refused(BAD, "renewed", 0, 2001, 0);
        x.refused(BAD, "renewed", 0, 1, -1);
        x.due(0, "renewed", 0, 1, 1);
        x.refused(BAD, "renewed", 0, 1, 2);
        x.refused(BAD, "renewed", 0, LEAST, 0);
        x.refused(BAD, "renewed", 0, MOST, 0);
        x.refused(BAD, "renewed", 0, 1, LEAST);
        x.refused(BAD, "renewed", 0, 1, MOST);
    }

    private static void oneAndOther(Asked x) {
        x.refused(BAD, "renewed", 0, 1501, 1);
        x.steps(1);
        x.depths(0, 5);
        x.due(1500, "renewed", 0, 1501, 1);
        x.refused(BAD, "renewed", 1, 1501, 1);
        x.refused(BAD, "renewed", 100, 1501, 1);
        x.refused(BAD, "renewed", 100, 1501, 0);
        x.steps(39);
        x.due(1500, "renewed", 0, 1501, 1);
        x.due(1501, "renewed", 39, 1501, 1);
        x.refused(BAD, "renewed", 40, 1501, 1);
        x.refused(BAD, "renewed", 99, 1501, 1);
        x.refused(NOT, "renewed", 100, 1501, 1);
        x.refused(NOT, "renewed", 3939, 1501, 1);
        x.refused(BAD, "renewed", 3940, 1501, 1);
        x.refused(BAD, "renewed", 4000, 1501, 1);
        x.refused(BAD, "renewed", 4039, 1501, 0);
        for (int ss : new int[] {-1, -100, -101, LEAST, MOST}) {
            x.refused(BAD, "renewed", ss, 1501, 0);
            x.refused(BAD, "renewed", ss, 1501, 1);
        }
    }
}
