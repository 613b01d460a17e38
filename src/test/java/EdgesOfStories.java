/** Promises 12 to 15: bounds of STORIES and of what they wear. */
final class EdgesOfStories {
    private static final int BAD = -1, NOT = -2, FULL = -3;
    private static final int LEAST = Integer.MIN_VALUE, MOST = Integer.MAX_VALUE;

    private EdgesOfStories() {
    }

    static void tell(Edges edges) {
        edges.test(12, "STORIES 0 .. 9, as they come:", EdgesOfStories::numbers);
        edges.test(12, "from a YEAR on to a YEAR (not that one; both 0 .. 2000)", EdgesOfStories::years);
        edges.test(12, "A STORY: its number. ft: 10000 times the first YEAR and the last one (not less)", EdgesOfStories::notLess);
        edges.test(12, "UPS and DOWNS a day (0 .. 999 each)", EdgesOfStories::upsAndDowns);
        edges.test(12, "ud: 1000 UPS and DOWNS", EdgesOfStories::thousandUps);
        edges.test(12, "PATH (0 .. 7)", EdgesOfStories::path);
        edges.test(12, "a shoe (0 .. 9)", EdgesOfStories::shoe);
        edges.test(12, "abreast (1, 0).", EdgesOfStories::abreast);
        edges.test(12, "ps: 100 PATH, 10 the shoe, abreast.", EdgesOfStories::pathAndShoe);
        edges.test(12, "BAD, FULL.", EdgesOfStories::badAheadOfFull);
        tellWorn(edges);
        edges.test(14, "LED: of STORIES the one by which a CELL is WORN most (of like ones the first",
                EdgesOfStories::ledByTheFirst);
        edges.test(14, "NOT: none is above 0).", EdgesOfStories::ledByNone);
        edges.test(14, "LED of a CELL by a LAW. BAD; NOT.", EdgesOfStories::ledBad);
        edges.test(15, "SHARE of a STORY: thousandths (cut) of what all wear off all CELLS of a STEP.",
                EdgesOfStories::shareCut);
        edges.test(15, "SHARE of a STORY at a STEP by a LAW. BAD;", EdgesOfStories::shareBad);
        edges.test(15, "NOT: nothing is WORN.", EdgesOfStories::shareOfNothing);
    }

    private static void tellWorn(Edges edges) {
        edges.test(13, "the years that it lay there (from the later one of the STORY's first YEAR and SET to its last, "
                + "0 at least)", EdgesOfStories::yearsThatItLay);
        edges.test(13, "times (UPS times what one takes up, and DOWNS times what one takes down)",
                EdgesOfStories::whatOneTakes);
        edges.test(13, "times 300, by 1000, cut.", EdgesOfStories::cut);
        edges.test(13, "BY STORIES (bits): the sum.", EdgesOfStories::sum);
        edges.test(13, "(longs; told as ints, 2000000000 at most.)", EdgesOfStories::toldAtMost);
        edges.test(13, "WORN by a LAW and a STORY, of a CELL of a STEP:", EdgesOfStories::ofACell);
        edges.test(13, "WORN of a CELL (sc) by a LAW and STORIES (bits). BAD.", EdgesOfStories::wornBad);
    }

    // ---- promise 12

    private static void numbers(Asked x) {
        x.steps(1);
        x.laws("1");
        x.refused(BAD, "worn", 0, 0, 1);
        for (int s = 0; s < 10; s++) {
            x.due(s, "story", 15001600, 1000 * (s + 1), 0);
            x.due(s + 1, "count", 2);
            x.due(30 * (s + 1), "worn", 0, 0, 1 << s);
            x.refused(BAD, "worn", 0, 0, 2 << s);
        }
        x.refused(FULL, "story", 15001600, 1000, 0);
        x.due(10, "count", 2);
        for (int s = 0; s < 10; s++) {
            x.due(30 * (s + 1), "worn", 0, 0, 1 << s);
        }
    }

    private static void years(Asked x) {
        x.call("step", 10, 0, 1);
        x.laws("10");
        x.refused(BAD, "story", -1, 1000, 0);
        x.due(0, "story", 0, 1000, 0);
        x.due(1, "story", 1, 1000, 0);
        x.due(2, "story", 2000, 1000, 0);
        x.refused(BAD, "story", 2001, 1000, 0);
        x.due(3, "story", 15001500, 1000, 0);
        x.due(4, "story", 15001501, 1000, 0);
        x.due(5, "story", 15001502, 1000, 0);
        x.due(6, "story", 20002000, 1000, 0);
        x.refused(BAD, "story", 20012001, 1000, 0);
        x.refused(BAD, "story", 20010000, 1000, 0);
        x.due(7, "story", 19992000, 1000, 0);
        int[] told = {0, 3, 6000, 0, 3, 6, 0, 3};
        for (int s = 0; s < told.length; s++) {
            x.due(told[s], "worn", 0, 0, 1 << s);
        }
    }

    private static void notLess(Asked x) {
        x.refused(BAD, "story", 15001499, 0, 0);
        x.due(0, "story", 15001500, 0, 0);
        x.due(1, "story", 15001501, 0, 0);
        x.refused(BAD, "story", 10000, 0, 0);
        x.due(2, "story", 10001, 0, 0);
        x.refused(BAD, "story", 20001999, 0, 0);
        x.due(3, "story", 20002000, 0, 0);
        x.refused(BAD, "story", 20002001, 0, 0);
        x.refused(BAD, "story", 9999, 0, 0);
        for (int ft : new int[] {-1, -10000, -15001600, LEAST, MOST}) {
            x.refused(BAD, "story", ft, 0, 0);
        }
    }

    private static void upsAndDowns(Asked x) {
        x.steps(1);
        x.laws("!d*10", "d*10");
        int[] told = {0, 1, 999, 1000, 998998, 999000, 999999};
        for (int s = 0; s < told.length; s++) {
            x.due(s, "story", 15001501, told[s], 0);
            x.due(told[s] / 1000 * 3, "worn", 0, 0, 1 << s);
            x.due(told[s] % 1000 * 3, "worn", 1, 0, 1 << s);
        }
        x.refused(BAD, "story", 15001501, -1, 0);
        x.refused(BAD, "story", 15001501, 1000000, 0);
    }

    private static void thousandUps(Asked x) {
        for (int ud : new int[] {-1, -1000, -999, LEAST, 1000000, 1000001, MOST}) {
            x.refused(BAD, "story", 15001600, ud, 0);
        }
        x.due(0, "story", 15001600, 0, 0);
        x.due(1, "story", 15001600, 999999, 0);
    }

    private static void path(Asked x) {
        x.steps(1);
        x.laws("(x=0)*10");
        x.refused(BAD, "story", 15001501, 1000, -100);
        for (int path = 0; path < 8; path++) {
            x.due(path, "story", 15001501, 1000, 100 * path);
            for (int c = 0; c < 8; c++) {
                x.due(c == path ? 3 : 0, "worn", 0, c, 1 << path);
            }
        }
        x.refused(BAD, "story", 15001501, 1000, 800);
        x.refused(BAD, "story", 15001501, 1000, 900);
    }

    private static void shoe(Asked x) {
        x.steps(1);
        x.laws("s*10");
        x.refused(BAD, "story", 15001501, 1000, -10);
        for (int s = 0; s < 10; s++) {
            x.due(s, "story", 15001501, 1000, 10 * s);
            x.due(3 * s, "worn", 0, 0, 1 << s);
        }
        Asked y = x.another();
        y.steps(1);
        y.laws("s*10");
        y.due(0, "story", 15001501, 1000, 100);
        y.due(0, "worn", 0, 0, 1);
    }

    private static void abreast(Asked x) {
        x.steps(1);
        x.laws("10+b*10", "(x=0)*10");
        x.due(0, "story", 15001501, 1000, 0);
        x.due(1, "story", 15001501, 1000, 1);
        x.refused(BAD, "story", 15001501, 1000, 2);
        x.refused(BAD, "story", 15001501, 1000, 9);
        x.due(3, "worn", 0, 0, 1);
        x.due(12, "worn", 0, 0, 2);
        x.due(0, "worn", 1, 7, 1);
        x.due(3, "worn", 1, 7, 2);
        x.due(3, "worn", 1, 0, 2);
        x.due(0, "worn", 1, 6, 2);
    }

    private static void pathAndShoe(Asked x) {
        int s = 0;
        for (int ps : new int[] {0, 1, 90, 91, 100, 700, 701, 790, 791}) {
            x.due(s++, "story", 15001600, 1000, ps);
        }
        for (int ps : new int[] {-1, -10, -100, LEAST, 2, 9, 19, 92, 99, 102, 702, 792, 799, 800, 801, 1000, MOST}) {
            x.refused(BAD, "story", 15001600, 1000, ps);
        }
    }

    private static void badAheadOfFull(Asked x) {
        for (int s = 0; s < 10; s++) {
            x.due(s, "story", 0, 0, 0);
        }
        x.refused(FULL, "story", 0, 0, 0);
        x.refused(BAD, "story", -1, 0, 0);
        x.refused(BAD, "story", 2001, 0, 0);
        x.refused(BAD, "story", 0, 1000000, 0);
        x.refused(BAD, "story", 0, 0, 2);
    }

    // ---- promise 13

    private static void yearsThatItLay(Asked x) {
        x.laws("10");
        int[] set = {0, 1499, 1500, 1501, 1598, 1599, 1600, 1601, 2000};
        int[] years = {100, 100, 100, 99, 2, 1, 0, 0, 0};
        x.due(0, "story", 15001600, 1000, 0);
        for (int step = 0; step < set.length; step++) {
            x.due(step, "step", 10, set[step], 1);
            x.due(3 * years[step], "worn", 0, 10 * step, 1);
        }
        x.due(0, "turn", 1, 1500);
        x.due(300, "worn", 0, 10, 1);
        x.due(0, "turn", 1, 1501);
        x.due(297, "worn", 0, 10, 1);
        x.due(0, "turn", 1, 1600);
        x.due(0, "worn", 0, 10, 1);
        x.due(0, "turn", 1, 1601);
        x.due(0, "worn", 0, 10, 1);
    }

    private static void whatOneTakes(Asked x) {
        x.steps(1);
        x.laws("d?100;10");
        int[] told = {0, 1, 1000, 1001, 2003, 999999};
        int[] want = {0, 30, 3, 33, 6 + 90, 2997 + 29970};
        for (int s = 0; s < told.length; s++) {
            x.due(s, "story", 15001501, told[s], 0);
            x.due(want[s], "worn", 0, 0, 1 << s);
        }
    }

    private static void cut(Asked x) {
        x.steps(1);
        x.laws("1");
        int[] feet = {0, 1, 3, 4, 6, 7, 9, 10, 333, 334};
        int[] want = {0, 0, 0, 1, 1, 2, 2, 3, 99, 100};
        for (int s = 0; s < feet.length; s++) {
            x.due(s, "story", 15001501, 1000 * feet[s], 0);
            x.due(want[s], "worn", 0, 0, 1 << s);
        }
        Asked y = x.another();
        y.steps(1);
        y.laws("1");
        // The years count ahead of the cut: 2 years of 2 feet are 4 feet, of 1 up and 1 down too.
        y.due(0, "story", 15001502, 2000, 0);
        y.due(1, "worn", 0, 0, 1);
        y.due(1, "story", 15001502, 1001, 0);
        y.due(1, "worn", 0, 0, 2);
        y.due(2, "story", 15001504, 1000, 0);
        y.due(1, "worn", 0, 0, 4);
    }

    private static void sum(Asked x) {
        x.steps(1);
        x.laws("1");
        x.due(0, "worn", 0, 0, 0);
        x.due(0, "story", 15001501, 3000, 0);
        x.due(1, "story", 15001501, 3000, 0);
        x.due(0, "worn", 0, 0, 3);
        x.due(2, "story", 15001501, 4000, 0);
        x.due(1, "worn", 0, 0, 7);
        for (int s = 3; s < 10; s++) {
            x.due(s, "story", 15001501, 10000 * s, 0);
        }
        int all = 0;
        for (int s = 3; s < 10; s++) {
            all += 3 * s;
        }
        x.due(all + 1, "worn", 0, 0, 1023);
        x.due(all + 1, "worn", 0, 0, 1020);
        x.due(all, "worn", 0, 0, 1016);
        x.due(27, "worn", 0, 0, 512);
        x.due(0, "worn", 0, 0, 0);
        x.refused(BAD, "worn", 0, 0, 1024);
    }

    /** 813 years of 820 feet that take 9999 and 902 that take 1 are 6666666666 units; 300 of 1000 are 1999999999. */
    private static void toldAtMost(Asked x) {
        x.call("step", 10, 0, 1);
        x.laws("d?1;9999");
        x.due(0, "story", 813, 820902, 0);
        x.due(1999999999, "worn", 0, 0, 1);
        x.due(1, "story", 1, 4, 0);
        x.due(1, "worn", 0, 0, 2);
        x.due(2, "story", 1, 7, 0);
        x.due(2, "worn", 0, 0, 4);
        x.due(2000000000, "worn", 0, 0, 3);
        x.due(2000000000, "worn", 0, 0, 5);
        x.due(3, "story", 2000, 999999, 1);
        x.due(2000000000, "worn", 0, 0, 8);
        x.due(2000000000, "worn", 0, 0, 15);
        x.due(3, "led", 0, 0);
        for (int s = 4; s < 10; s++) {
            x.due(s, "story", 2000, 999999, 1);
        }
        x.due(2000000000, "worn", 0, 0, 1023);
        x.due(2, "worn", 0, 0, 4);
    }

    private static void ofACell(Asked x) {
        x.steps(1);
        x.call("step", 50, 1550, 70);
        x.laws("(x=0)*10*h");
        x.due(0, "story", 15001600, 1000, 700);
        x.due(300, "worn", 0, 7, 1);
        x.due(0, "worn", 0, 6, 1);
        x.due(0, "worn", 0, 0, 1);
        x.due(5 * 150, "worn", 0, 17, 1);
    }

    private static void wornBad(Asked x) {
        x.refused(BAD, "worn", 0, 0, 0);
        x.laws("1");
        x.refused(BAD, "worn", 0, 0, 0);
        x.steps(1);
        x.due(0, "worn", 0, 0, 0);
        x.refused(BAD, "worn", 0, 0, 1);
        x.call("story", 15001600, 1000, 0);
        x.due(30, "worn", 0, 0, 1);
        x.refused(BAD, "worn", 0, 0, 2);
        for (int stories : new int[] {-1, 3, LEAST, MOST, 1 << 10, 1 << 30}) {
            x.refused(BAD, "worn", 0, 0, stories);
        }
        for (int law : new int[] {-1, 1, 4, LEAST, MOST}) {
            x.refused(BAD, "worn", law, 0, 1);
        }
        x.due(30, "worn", 0, 7, 1);
        for (int sc : new int[] {-1, 8, 9, 10, LEAST, MOST}) {
            x.refused(BAD, "worn", 0, sc, 1);
        }
    }

    // ---- promises 14 and 15

    private static void ledByTheFirst(Asked x) {
        x.steps(1);
        x.laws("(x<2)*10", "9999");
        x.due(0, "story", 15001501, 1000, 500);
        x.due(0, "led", 0, 5);
        x.due(1, "story", 15001501, 2000, 500);
        x.due(2, "story", 15001501, 2000, 500);
        x.due(1, "led", 0, 5);
        x.due(3, "story", 15001501, 3000, 500);
        x.due(3, "led", 0, 5);
        x.due(4, "story", 15001501, 2999, 500);
        x.due(4, "led", 0, 5);
        for (int s = 5; s < 9; s++) {
            x.due(s, "story", 15001501, 1000, 0);
        }
        x.due(9, "story", 15001501, 3000, 0);
        x.due(9, "led", 0, 0);
        x.due(4, "led", 0, 5);
        Asked y = x.another();
        y.call("step", 10, 0, 1);
        y.laws("9999");
        y.due(0, "story", 2000, 998999, 0);
        y.due(1, "story", 2000, 999999, 0);
        y.due(1, "led", 0, 0);
        y.due(2, "story", 2000, 999999, 0);
        y.due(1, "led", 0, 0);
    }

    private static void ledByNone(Asked x) {
        x.steps(1);
        x.laws("1", "0");
        x.refused(NOT, "led", 0, 0);
        x.due(0, "story", 15001501, 3000, 0);
        x.due(0, "worn", 0, 0, 1);
        x.refused(NOT, "led", 0, 0);
        x.due(1, "story", 15001501, 4000, 0);
        x.due(1, "led", 0, 0);
        x.refused(NOT, "led", 1, 0);
        x.due(0, "turn", 0, 1501);
        x.refused(NOT, "led", 0, 0);
    }

    private static void ledBad(Asked x) {
        x.refused(BAD, "led", 0, 0);
        x.laws("1");
        x.refused(BAD, "led", 0, 0);
        x.steps(1);
        x.refused(NOT, "led", 0, 0);
        x.refused(NOT, "led", 0, 7);
        for (int sc : new int[] {-1, 8, 10, LEAST, MOST}) {
            x.refused(BAD, "led", 0, sc);
        }
        for (int law : new int[] {-1, 1, 4, LEAST, MOST}) {
            x.refused(BAD, "led", law, 0);
        }
    }

    private static void shareCut(Asked x) {
        x.steps(1);
        x.laws("(x=0)*10", "(x<1|x>6)*10");
        x.due(0, "story", 15001501, 1000, 0);
        x.due(1000, "share", 0, 0, 0);
        x.due(1, "story", 15001501, 2000, 700);
        x.due(333, "share", 0, 0, 0);
        x.due(666, "share", 0, 0, 1);
        x.due(333, "share", 1, 0, 0);
        x.due(2, "story", 15001501, 0, 0);
        x.due(0, "share", 0, 0, 2);
        x.due(3, "story", 15001501, 997000, 300);
        x.due(1, "share", 0, 0, 0);
        x.due(2, "share", 0, 0, 1);
        x.due(997, "share", 0, 0, 3);
        x.due(4, "story", 15001501, 1000, 300);
        x.due(0, "share", 0, 0, 0);
        x.due(1, "share", 0, 0, 1);
        x.due(996, "share", 0, 0, 3);
        Asked y = x.another();
        y.call("step", 10, 0, 1);
        y.laws("9999");
        for (int s = 0; s < 10; s++) {
            y.due(s, "story", 2000, 999999, 1);
        }
        y.due(100, "share", 0, 0, 9);
    }

    private static void shareBad(Asked x) {
        x.refused(BAD, "share", 0, 0, 0);
        x.steps(1);
        x.laws("1");
        x.refused(BAD, "share", 0, 0, 0);
        x.due(0, "story", 15001600, 1000, 0);
        x.due(1000, "share", 0, 0, 0);
        x.refused(BAD, "share", 0, 0, -1);
        x.refused(BAD, "share", 0, 0, 1);
        x.due(1, "story", 15001600, 1000, 0);
        x.due(500, "share", 0, 0, 1);
        for (int out : new int[] {-1, 2, 10, LEAST, MOST}) {
            x.refused(BAD, "share", 0, 0, out);
            x.refused(BAD, "share", 0, out, 0);
            x.refused(BAD, "share", out, 0, 0);
        }
    }

    private static void shareOfNothing(Asked x) {
        x.steps(1);
        x.laws("(x=7)*1");
        x.due(0, "story", 15001501, 3000, 0);
        x.refused(NOT, "share", 0, 0, 0);
        x.refused(BAD, "share", 0, 0, 1);
        x.due(1, "story", 15001501, 4000, 0);
        x.due(0, "share", 0, 0, 0);
        x.due(1000, "share", 0, 0, 1);
        x.due(0, "turn", 0, 1501);
        x.refused(NOT, "share", 0, 0, 1);
        Asked y = x.another();
        y.steps(1);
        y.laws("(x>7)*99");
        y.due(0, "story", 15001501, 4000, 0);
        y.due(1, "story", 15001501, 4000, 700);
        y.refused(NOT, "share", 0, 0, 0);
        y.refused(NOT, "share", 0, 0, 1);
    }
}
