/** Promises 18 to 25: how many feet a depth tells, and whose they were. */
public final class FeetTest {
    private static final Due due = new Due("feet");

    public static void main(String[] args) {
        feet();
        feetNot();
        shares();
        sharesBad();
        other();
        renewed();
        renewedNot();
        fits();
        fitsOverSteps();
        fitsBig();
        best();
        bestOfLikeOnes();
        bestOfEight();
        next();
        nextNot();
        slipped();
        slippedNot();
        due.end();
    }

    private static void depths(HollowSteps x, int step, int... measures) {
        for (int c = 0; c < measures.length; c++) {
            x.depth(10 * step + c, measures[c]);
        }
    }

    private static HollowSteps stair(int steps, String... laws) {
        HollowSteps x = new HollowSteps();
        for (String text : laws) {
            Texts.law(x, text);
        }
        for (int s = 0; s < steps; s++) {
            x.step(10, 1500, 70);
        }
        return x;
    }

    private static void refused(HollowSteps x, int want, int[]... calls) {
        for (int[] a : calls) {
            String shown = java.util.Arrays.toString(a);
            due.is("feet" + shown, x.feet(a[0], a[1], a[2], a[3]), want);
        }
    }

    private static void feet() {
        HollowSteps x = stair(1, "d?4+s;1+s*2+b*50", "3-x+s");
        depths(x, 0, 100, 7);
        due.is("100000 / ((1 + 4) / 2)", x.feet(0, 0, 0, 0), 50000);
        due.is("7000 / ((5 + 6) / 2), cut", x.feet(0, 1, 22, 0), 1400);
        due.is("7000 / ((3 + 5) / 2)", x.feet(0, 1, 11, 0), 1750);
        due.is("least of shoes 1 to 2", x.feet(0, 1, 12, 0), 1400);
        due.is("greatest of shoes 1 to 2", x.feet(0, 1, 12, 1), 1750);
        due.is("7000 / 13 cut", x.feet(0, 1, 77, 0), 538);
        due.is("7000 / 13 up", x.feet(0, 1, 77, 1), 539);
        due.is("7000 / 14: up is the same", x.feet(0, 1, 88, 1), 500);
        due.is("of shoes 0 to 9", x.feet(0, 1, 9, 0), 437);
        due.is("of shoes 0 to 9", x.feet(0, 1, 9, 1), 3500);
        due.is("nothing is measured", x.feet(0, 2, 9, 1), 0);
        due.is("the path: 7000 / 3", x.feet(1, 1, 100, 0), 2333);
        due.is("the path: 7000 / 2", x.feet(1, 1, 200, 0), 3500);
        depths(x, 0, 99999);
        due.is("much", x.feet(1, 0, 200, 1), 99999000);
        refused(x, -1, new int[] {2, 0, 0, 0}, new int[] {-1, 0, 0, 0}, new int[] {0, 8, 0, 0}, new int[] {0, 10, 0, 0},
                new int[] {0, -1, 0, 0}, new int[] {0, 0, -1, 0}, new int[] {0, 0, 800, 0}, new int[] {0, 0, 10, 0},
                new int[] {0, 0, 98, 0}, new int[] {0, 0, 0, 2}, new int[] {0, 0, 0, -1},
                new int[] {0, 0, Integer.MAX_VALUE, 0}, new int[] {0, 0, Integer.MIN_VALUE, 0}, new int[] {1, 0, 709, 2});
    }

    private static void feetNot() {
        HollowSteps x = stair(1, "s<5", "d", "d?2;0", "s-1", "b");
        depths(x, 0, 100);
        due.is("all shoes take", x.feet(0, 0, 4, 0), 100000);
        due.is("the last shoe takes nothing", x.feet(0, 0, 5, 0), -2);
        due.is("the first shoe takes nothing", x.feet(3, 0, 9, 1), -2);
        due.is("the mean is cut to 0", x.feet(1, 0, 0, 0), -2);
        due.is("the mean is 1", x.feet(2, 0, 0, 0), 100000);
        due.is("nothing measured, nothing taken", x.feet(1, 1, 0, 0), -2);
    }

    private static void shares() {
        HollowSteps x = stair(2, "d?x;5-x", "d?3;2", "s");
        depths(x, 0, 50, 41, 32, 23, 14, 5, 6, 7);
        due.is("a of 10 up and 1 down", x.shares(0, 0, 0, 0), 10);
        due.is("b of 10 up and 1 down", x.shares(0, 0, 0, 1), 1);
        due.is("nothing is left", x.shares(0, 0, 0, 2), 0);
        depths(x, 0, 50, 41, 32, 23, 14, 5, 6, 90);
        due.is("a with one off", x.shares(0, 0, 0, 0), 10);
        due.is("b with one off", x.shares(0, 0, 0, 1), 1);
        due.is("83 are left", x.shares(0, 0, 0, 2), 83);
        depths(x, 1, 6, 6, 6, 6, 6, 6, 6, 6);
        due.is("3 * 2 + 0 * 3 is as good as 0 * 2 + 2 * 3: the least a", x.shares(1, 1, 0, 0), 0);
        due.is("its b", x.shares(1, 1, 0, 1), 2);
        due.is("like ones by b: nothing is taken", x.shares(2, 1, 0, 1), 0);
        due.is("all is left", x.shares(2, 1, 0, 2), 48);
        due.is("the shoe takes", x.shares(2, 1, 6, 2), 0);
        due.is("1 of either: the least a", x.shares(2, 1, 6, 0), 0);
        due.is("1 of either", x.shares(2, 1, 6, 1), 1);
        depths(x, 1, 99999, 99999, 99999, 99999, 99999, 99999, 99999, 99999);
        due.is("60 at most", x.shares(1, 1, 0, 0), 60);
        due.is("60 at most", x.shares(1, 1, 0, 1), 60);
        due.is("8 * (99999 - 300)", x.shares(1, 1, 0, 2), 797592);
        depths(x, 1, 0, 10, 20, 30, 40, 50, 40, 30);
        due.is("the path at 5", x.shares(0, 1, 50, 0), 10);
        due.is("the path at 5", x.shares(0, 1, 50, 1), 0);
        depths(x, 1, 0, 0, 0, 0, 0, 0, 0, 0);
        due.is("no measures", x.shares(1, 1, 0, 0), 0);
        due.is("no measures", x.shares(1, 1, 0, 1), 0);
        due.is("no measures", x.shares(1, 1, 0, 2), 0);
        sharesByPathAndShoe();
    }

    /** Law 0 tells ups of shoe 6 at path 3 alone; law 1 the downs of it, by d itself. */
    private static void sharesByPathAndShoe() {
        HollowSteps x = stair(3, "(s=6)*(x=0)*!d", "(s=6)*(x=0)*d", "s=3");
        depths(x, 1, 0, 0, 0, 9);
        due.is("ups of shoe 6 at path 3", x.shares(0, 1, 36, 0), 9);
        due.is("nothing is left", x.shares(0, 1, 36, 2), 0);
        due.is("not shoe 3", x.shares(0, 1, 33, 2), 9);
        due.is("not path 6", x.shares(0, 1, 63, 2), 9);
        due.is("downs of it", x.shares(1, 1, 36, 1), 9);
        due.is("another stair, up", x.other(0, 36), 9);
        due.is("another stair, down", x.other(1, 36), -9);
        due.is("another stair, shoe 3", x.other(0, 33), 0);
        HollowSteps y = stair(1, "(s=6)*!d");
        depths(y, 0, 1, 1, 1, 1, 1, 1, 1, 1);
        due.is("depths of 1 are MEASURES", y.other(0, 16), 1);
        depths(y, 0, 0, 0, 0, 0, 0, 0, 0, 0);
        due.is("depths of 0 are none", y.other(0, 16), -2);
    }

    private static void sharesBad() {
        HollowSteps x = stair(1, "1");
        int[][] bad = {{1, 0, 0, 0}, {-1, 0, 0, 0}, {0, 1, 0, 0}, {0, -1, 0, 0}, {0, 0, -1, 0}, {0, 0, 80, 0},
            {0, 0, 0, 3}, {0, 0, 0, -1}, {0, 0, Integer.MAX_VALUE, 0}, {Integer.MIN_VALUE, 0, 0, 0}};
        for (int[] a : bad) {
            due.is("shares" + java.util.Arrays.toString(a), x.shares(a[0], a[1], a[2], a[3]), -1);
        }
        due.is("shares(0, 0, 79, 2)", x.shares(0, 0, 79, 2), 0);
        due.is("other(0, 80)", x.other(0, 80), -1);
        due.is("other(0, -1)", x.other(0, -1), -1);
        due.is("other(1, 0)", x.other(1, 0), -1);
        due.is("other(-1, 0)", x.other(-1, 0), -1);
        due.is("other(0, 79)", x.other(0, 79), -2);
    }

    private static void other() {
        HollowSteps x = stair(3, "d?x;5-x", "d?3;2");
        due.is("no measures", x.other(0, 0), -2);
        depths(x, 0, 50, 41, 32, 23, 14, 5, 6, 7);
        due.is("10 less 1", x.other(0, 0), 9);
        depths(x, 2, 0, 20, 40, 60, 80, 100, 120, 140);
        due.is("and 0 less 20", x.other(0, 0), -11);
        due.is("the path", x.other(0, 10), x.shares(0, 0, 10, 0) - x.shares(0, 0, 10, 1) + x.shares(0, 2, 10, 0)
                - x.shares(0, 2, 10, 1));
        HollowSteps y = stair(3, "s*d");
        depths(y, 1, 0, 0, 0, 4);
        due.is("measures, but as many ups as downs", y.other(0, 0), 0);
        HollowSteps none = new HollowSteps();
        Texts.law(none, "1");
        due.is("no steps", none.other(0, 0), -2);
    }

    private static void renewed() {
        HollowSteps x = stair(1, "1");
        x.step(10, 1900, 70);
        x.step(10, 1600, 70);
        depths(x, 0, 10, 8000, 0, 7999);
        depths(x, 1, 0, 0, 0, 0, 0, 0, 0, 700);
        due.is("700000 / 99 cut", x.renewed(101, 1999, 0), 7070);
        due.is("one year", x.renewed(101, 1901, 0), 700000);
        due.is("8000000 / 500", x.renewed(0, 2000, 0), 16000);
        due.is("another: 1999 - 8000000 / 7070 cut", x.renewed(100, 1999, 1), 1999 - 1131);
        due.is("itself", x.renewed(101, 1999, 1), 1999 - 99);
        due.is("another without measures", x.renewed(102, 1999, 1), 1999);
        depths(x, 0, 99999);
        due.is("the deepest", x.renewed(101, 2000, 0), 7000);
        due.is("ahead of year 0", x.renewed(100, 2000, 1), 2000 - 14285);
    }

    private static void renewedNot() {
        HollowSteps x = stair(1, "1");
        x.step(10, 0, 70);
        due.is("set in that year", x.renewed(0, 1500, 0), -2);
        due.is("set behind it", x.renewed(0, 1499, 1), -2);
        due.is("no measures", x.renewed(0, 1501, 0), -2);
        depths(x, 0, 1);
        due.is("1000 / 1", x.renewed(0, 1501, 0), 1000);
        due.is("set in that year, with measures", x.renewed(0, 1500, 0), -2);
        depths(x, 1, 1);
        due.is("1000 / 1000", x.renewed(100, 1000, 0), 1);
        due.is("1000 / 1001, cut to 0", x.renewed(100, 1001, 0), -2);
        due.is("another by nothing", x.renewed(100, 1001, 1), -2);
        int[][] bad = {{-1, 1600, 0}, {-100, 1600, 0}, {200, 1600, 0}, {2, 1600, 1}, {99, 1600, 1}, {0, -1, 0}, {0, 2001, 0},
            {0, 1600, 2}, {0, 1600, -1}, {Integer.MAX_VALUE, 1600, 0}, {Integer.MIN_VALUE, 1600, 0}};
        for (int[] a : bad) {
            due.is("renewed(" + a[0] + ", " + a[1] + ", " + a[2] + ")", x.renewed(a[0], a[1], a[2]), -1);
        }
    }

    /** Ten units a year and up: stories 0 to 3 wear 30, 60, 120 and 240 off the cells near their paths. */
    private static HollowSteps told(int stories) {
        HollowSteps x = stair(2, "x<2", "0");
        for (int s = 0; s < stories; s++) {
            x.story(15001600, 1000 << s, 100 * Math.min(s, 7));
        }
        return x;
    }

    private static void fits() {
        HollowSteps x = told(3);
        due.is("no measures: how many", x.fits(0, 7, 0, 0), -2);
        due.is("no measures: the least", x.fits(0, 7, 0, 1), -2);
        depths(x, 0, 30, 0, 120);
        due.is("worn(0, 0, 1)", x.worn(0, 0, 1), 30);
        due.is("worn(0, 1, 7)", x.worn(0, 1, 7), 210);
        due.is("worn(0, 2, 7)", x.worn(0, 2, 7), 180);
        due.is("none fits: cell 2 wants story 2, cell 0 story 0 alone", x.fits(0, 3, 0, 1), -2);
        due.is("how many", x.fits(0, 3, 0, 0), 0);
        due.is("one of 8 sets", x.fits(0, 7, 0, 0), 1);
        due.is("0 and 2", x.fits(0, 7, 0, 1), 5);
        due.is("by 59", x.fits(0, 7, 59, 0), 2);
        due.is("by 59 the least", x.fits(0, 7, 59, 1), 4);
        due.is("by 60: 4, 5, 6, 7, 2, 3 but not 0, 1", x.fits(0, 7, 60, 0), 6);
        due.is("by 60 the least", x.fits(0, 7, 60, 1), 2);
        due.is("told less: 0, 4", x.fits(0, 5, 120, 0), 4);
        due.is("told less: the least", x.fits(0, 5, 60, 1), 4);
        due.is("the told one alone, or none", x.fits(0, 4, 99999, 0), 2);
        due.is("none told", x.fits(0, 0, 120, 0), 1);
        due.is("none told, the least", x.fits(0, 0, 120, 1), 0);
        due.is("none told, none fits", x.fits(0, 0, 119, 0), 0);
        HollowSteps y = told(3);
        depths(y, 0, 1);
        due.is("a MEASURE of 1 counts", y.fits(0, 7, 29, 0), 4);
        due.is("no set wears 1", y.fits(0, 7, 0, 0), 0);
        due.is("and is the sum for none", y.best(0, 0, 1), 1);
        int[][] bad = {{2, 7, 0, 0}, {-1, 7, 0, 0}, {0, 8, 0, 0}, {0, -1, 0, 0}, {0, 7, -1, 0}, {0, 7, 100000, 0},
            {0, 7, 0, 2}, {0, 7, 0, -1}, {0, Integer.MIN_VALUE, 0, 0}, {0, Integer.MAX_VALUE, 0, 0}};
        for (int[] a : bad) {
            due.is("fits" + java.util.Arrays.toString(a), x.fits(a[0], a[1], a[2], a[3]), -1);
        }
    }

    private static void fitsOverSteps() {
        HollowSteps x = told(3);
        depths(x, 0, 30);
        depths(x, 1, 0, 0, 0, 120);
        due.is("over both steps: 1 and 5, but 4 and 5", x.fits(0, 7, 0, 0), 1);
        due.is("the least", x.fits(0, 7, 0, 1), 5);
        x.turn(1, 1999);
        due.is("what lies below does not count", x.fits(0, 7, 0, 1), 1);
        due.is("nor does it", x.fits(0, 7, 0, 0), 2);
    }

    private static void fitsBig() {
        HollowSteps x = told(10);
        due.is("nine", x.fits(0, 511, 0, 0), -4);
        due.is("ten", x.fits(0, 1023, 0, 1), -4);
        due.is("not as said", x.fits(0, 1023, 0, 2), -1);
        due.is("eight, no measures", x.fits(0, 255, 0, 0), -2);
        due.is("best of nine", x.best(0, 511, 0), -4);
        due.is("best of ten", x.best(0, 1023, 1), -4);
        due.is("best not as said", x.best(0, 1023, 2), -1);
        due.is("best of eight, no measures", x.best(0, 255, 0), -2);
        depths(x, 0, 30);
        due.is("nine", x.fits(0, 511, 0, 0), -4);
        due.is("eight: 0 with any of 2 to 7", x.fits(0, 255, 0, 0), 64);
        due.is("any eight", x.fits(0, 0x3fc, 30, 0), 256);
        due.is("the least of them", x.fits(0, 0x3fc, 30, 1), 0);
        depths(x, 0, 0, 0, 0, 0, 0, 0, 0, 1);
        due.is("a set of far stories", x.fits(0, 0x3fc, 0, 1), -2);
    }

    private static void best() {
        HollowSteps x = told(3);
        due.is("no measures", x.best(0, 7, 0), -2);
        due.is("no measures", x.best(0, 7, 1), -2);
        depths(x, 0, 31, 0, 119);
        depths(x, 1, 0, 0, 0, 121);
        due.is("0 and 2", x.best(0, 7, 0), 5);
        due.is("1 + 1 + 1", x.best(0, 7, 1), 3);
        due.is("told less", x.best(0, 6, 0), 4);
        due.is("31 + 1 + 1", x.best(0, 6, 1), 33);
        due.is("none told", x.best(0, 0, 0), 0);
        due.is("31 + 119 + 121", x.best(0, 0, 1), 271);
        due.is("by a law that takes nothing", x.best(1, 7, 0), 0);
        due.is("all is left", x.best(1, 7, 1), 271);
        int[][] bad = {{2, 7, 0}, {-1, 7, 0}, {0, 8, 0}, {0, -1, 0}, {0, 7, 2}, {0, 7, -1}, {0, Integer.MIN_VALUE, 0}};
        for (int[] a : bad) {
            due.is("best" + java.util.Arrays.toString(a), x.best(a[0], a[1], a[2]), -1);
        }
    }

    private static void bestOfLikeOnes() {
        HollowSteps x = stair(1, "1");
        x.story(15001600, 2000, 0);
        x.story(15001600, 1000, 0);
        x.story(15001600, 1000, 0);
        depths(x, 0, 60);
        due.is("1 and 2 together are as good as 0", x.best(0, 7, 0), 1);
        due.is("nothing left", x.best(0, 7, 1), 0);
        due.is("of 1 and 2", x.best(0, 6, 0), 6);
        depths(x, 0, 45);
        due.is("more and less are alike: 30 or 60", x.best(0, 7, 0), 1);
        due.is("15", x.best(0, 7, 1), 15);
        due.is("30, by the least", x.best(0, 6, 0), 2);
    }

    private static void bestOfEight() {
        HollowSteps x = stair(40, "9999");
        for (int s = 0; s < 10; s++) {
            x.story(s == 9 ? 15001501 : 2000, s == 9 ? 1000 : 999999, 0);
        }
        for (int sc = 0; sc < 400; sc++) {
            x.depth(sc, 99999);
        }
        due.is("more than can be told is worn: the empty set", x.best(0, 255, 0), 0);
        due.is("320 * 99999", x.best(0, 255, 1), 31999680);
        due.is("2999 of each", x.best(0, 0x3f8, 0), 512);
        due.is("320 * (99999 - 2999)", x.best(0, 0x3f8, 1), 31040000);
        due.is("it fits by 97000", x.fits(0, 0x3f8, 97000, 1), 512);
        due.is("not by less", x.fits(0, 0x3f8, 96999, 1), -2);
    }

    private static void next() {
        HollowSteps x = stair(4, "h*(x<1)", "0", "9999");
        x.mend(1, 0, 3);
        x.mend(2, 0, 3);
        x.mend(3, 0, 9);
        x.story(15001600, 1000, 0);
        x.story(15001600, 2000, 700);
        due.is("most at step 3", x.next(0, 1, 2), 3);
        depths(x, 3, 0, 0, 0, 1);
        due.is("it has measures", x.next(0, 1, 2), 1);
        depths(x, 1, 0, 0, 1);
        due.is("so has this", x.next(0, 1, 2), 2);
        depths(x, 1, 0, 0, 0);
        due.is("of like ones the least", x.next(0, 2, 1), 1);
        due.is("all and none", x.next(0, 0, 3), 1);
        due.is("alike", x.next(0, 3, 3), -2);
        due.is("by nothing", x.next(1, 1, 2), -2);
        x.turn(3, 1550);
        due.is("turned: has none above; 50 years of 9", x.next(0, 1, 2), 3);
        x.step(10, 0, 70);
        x.step(10, 0, 70);
        x.story(2000, 998999, 0);
        x.story(2000, 999999, 0);
        x.mend(5, 0, 9);
        due.is("by longs: more than can be told", x.next(2, 4, 0), 4);
        due.is("the greater is not cut", x.next(0, 4, 0), 5);
    }

    private static void nextNot() {
        HollowSteps little = stair(1, "(x=7)*4", "(x=8)*9");
        little.story(15001501, 1000, 0);
        due.is("they differ by 1", little.next(0, 0, 1), 0);
        due.is("8 cells off nothing differs", little.next(1, 0, 1), -2);
        HollowSteps x = stair(1, "1");
        x.story(15001600, 1000, 0);
        due.is("next(0, 0, 1)", x.next(0, 0, 1), 0);
        depths(x, 0, 0, 0, 0, 0, 0, 0, 0, 1);
        due.is("none without measures", x.next(0, 0, 1), -2);
        HollowSteps none = new HollowSteps();
        Texts.law(none, "1");
        due.is("no steps", none.next(0, 0, 0), -2);
        int[][] bad = {{1, 0, 1}, {-1, 0, 1}, {0, 2, 1}, {0, -1, 1}, {0, 0, 2}, {0, 0, -1}, {0, 0, Integer.MIN_VALUE}};
        for (int[] a : bad) {
            due.is("next" + java.util.Arrays.toString(a), x.next(a[0], a[1], a[2]), -1);
        }
    }

    private static void slipped() {
        HollowSteps x = new HollowSteps();
        Texts.law(x, "d?10+k*3;5000");
        Texts.law(x, "d*(9-k+s*7+b*7+x*7)");
        Texts.law(x, "k");
        Texts.law(x, "7+h*10+w*100+(k>4)*x");
        x.step(20, 0, 70);
        x.step(31, 0, 66);
        x.step(40, 0, 71);
        x.step(50, 0, 76);
        due.is("the most unlike, the first of like ones", x.slipped(0, 0, 0), 2);
        due.is("15 to 10", x.slipped(0, 0, 1), 1500);
        due.is("less is taken: 4 to 9, cut", x.slipped(1, 5, 1), -555);
        due.is("nothing is taken else", x.slipped(2, 0, 1), 0);
        due.is("as much is taken", x.slipped(3, 7, 1), 0);
        x.mend(1, 1, 99);
        due.is("29 unlike", x.slipped(0, 0, 0), 1);
        due.is("97 to 10", x.slipped(0, 7, 1), 8700);
        x.mend(0, 1, 1);
        due.is("98 unlike", x.slipped(0, 0, 1), 29400);
        int[][] bad = {{4, 0, 0}, {-1, 0, 0}, {0, -1, 0}, {0, 8, 0}, {0, 0, 2}, {0, 0, -1}, {Integer.MIN_VALUE, 0, 0},
            {0, Integer.MAX_VALUE, 1}};
        for (int[] a : bad) {
            due.is("slipped" + java.util.Arrays.toString(a), x.slipped(a[0], a[1], a[2]), -1);
        }
    }

    private static void slippedNot() {
        HollowSteps x = new HollowSteps();
        due.is("no law", x.slipped(0, 0, 0), -1);
        Texts.law(x, "1");
        due.is("no steps", x.slipped(0, 0, 0), -2);
        x.step(10, 0, 5);
        due.is("one step", x.slipped(0, 0, 1), -2);
        x.step(10, 0, 5);
        due.is("like ones", x.slipped(0, 0, 0), -2);
        x.step(10, 0, 6);
        due.is("unlike by 1", x.slipped(0, 0, 0), 2);
        x.mend(2, 1, 5);
        due.is("no more", x.slipped(0, 0, 0), -2);
        due.is("not as said", x.slipped(0, 8, 0), -1);
    }
}
