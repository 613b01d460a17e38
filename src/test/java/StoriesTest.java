/** Promises 12 to 15: stories, and what they wear. */
public final class StoriesTest {
    private static final Due due = new Due("stories");

    public static void main(String[] args) {
        story();
        worn();
        wornAbreast();
        wornYears();
        wornMuch();
        sets();
        led();
        share();
        shareOfMuch();
        due.end();
    }

    private static void story() {
        HollowSteps x = new HollowSteps();
        int[][] bad = {{-1, 0, 0}, {-10000, 0, 0}, {2001, 0, 0}, {20012001, 0, 0}, {10000999, 0, 0}, {20001999, 0, 0},
            {Integer.MAX_VALUE, 0, 0}, {Integer.MIN_VALUE, 0, 0}, {0, -1, 0}, {0, 1000000, 0}, {0, -1000, 0},
            {0, Integer.MIN_VALUE, 0}, {0, 0, -1}, {0, 0, 800}, {0, 0, 792}, {0, 0, 2}, {0, 0, 9}, {0, 0, 19},
            {0, 0, Integer.MIN_VALUE}, {0, 0, Integer.MAX_VALUE}};
        for (int[] a : bad) {
            due.is("story(" + a[0] + ", " + a[1] + ", " + a[2] + ")", x.story(a[0], a[1], a[2]), -1);
        }
        due.is("none came", x.count(2), 0);
        due.is("story 0", x.story(0, 0, 0), 0);
        due.is("story 1", x.story(20002000, 999999, 791), 1);
        for (int s = 2; s < 10; s++) {
            due.is("story " + s, x.story(15001600, 1001, 0), s);
        }
        due.is("an eleventh", x.story(15001600, 1001, 0), -3);
        due.is("an eleventh, not as said", x.story(15001600, 1001, 2), -1);
        due.is("ten", x.count(2), 10);
    }

    /** Law 0: up 3 less how far, down 5; law 1: the shoe; law 2: much; law 3: nothing. */
    private static HollowSteps stair() {
        HollowSteps x = new HollowSteps();
        Texts.law(x, "d?5;3-x");
        Texts.law(x, "s+b*10");
        Texts.law(x, "9999");
        Texts.law(x, "0");
        x.step(10, 1500, 70);
        x.step(10, 1600, 70);
        return x;
    }

    private static void worn() {
        HollowSteps x = stair();
        due.is("no stories", x.worn(0, 0, 0), 0);
        due.is("no such story", x.worn(0, 0, 1), -1);
        x.story(15001600, 7002, 210);
        due.is("at the path: 100 * (7 * 3 + 2 * 5) * 300 / 1000", x.worn(0, 2, 1), 930);
        due.is("beside it", x.worn(0, 3, 1), 720);
        due.is("none up takes below 0", x.worn(0, 7, 1), 300);
        due.is("the shoe", x.worn(1, 0, 1), 270);
        x.story(15001501, 1000, 0);
        due.is("cut: 3 * 300 / 1000", x.worn(0, 0, 2), 0);
        x.story(15001501, 1001, 0);
        due.is("cut: 8 * 300 / 1000", x.worn(0, 0, 4), 2);
        x.story(15001501, 1001, 0);
        due.is("each is cut by itself", x.worn(0, 0, 12), 4);
        due.is("set later", x.worn(0, 12, 1), 0);
        int[][] bad = {{-1, 0, 0}, {4, 0, 0}, {0, 8, 0}, {0, -1, 0}, {0, 20, 0}, {0, 0, 16}, {0, 0, -1},
            {0, 0, Integer.MIN_VALUE}, {0, 0, Integer.MAX_VALUE}, {Integer.MAX_VALUE, 0, 0}};
        for (int[] a : bad) {
            due.is("worn(" + a[0] + ", " + a[1] + ", " + a[2] + ")", x.worn(a[0], a[1], a[2]), -1);
        }
    }

    private static void wornAbreast() {
        HollowSteps x = stair();
        x.story(15001600, 1000, 141);
        due.is("two shoes, both know of it: 100 * 28 * 300 / 1000", x.worn(1, 0, 1), 840);
        due.is("beside one path, far from the other", x.worn(0, 2, 1), 60);
        due.is("at the other path", x.worn(0, 6, 1), 90);
    }

    private static void wornYears() {
        HollowSteps x = stair();
        x.story(14001650, 100000, 0);
        due.is("from SET on: 150 * 300 * 300 / 1000", x.worn(0, 0, 1), 13500);
        due.is("from the later SET on: 50 * 300 * 300 / 1000", x.worn(0, 10, 1), 4500);
        x.story(15501650, 100000, 0);
        due.is("from the first year on", x.worn(0, 0, 2), 9000);
        x.story(15501550, 100000, 0);
        due.is("not the last year", x.worn(0, 0, 4), 0);
        x.story(10001500, 100000, 0);
        due.is("SET in its last year", x.worn(0, 0, 8), 0);
        x.story(10001501, 100000, 0);
        due.is("SET a year ahead", x.worn(0, 0, 16), 90);
        x.turn(0, 1640);
        due.is("SET new", x.worn(0, 0, 1), 900);
    }

    private static void wornMuch() {
        HollowSteps x = stair();
        x.step(10, 0, 70);
        x.story(2000, 999999, 1);
        due.is("told 2000000000 at most", x.worn(2, 20, 1), 2000000000);
        x.story(180, 999999, 0);
        due.is("180 * 999 * 2 * 9999 * 300 / 1000", x.worn(2, 20, 2), 1078812108);
        x.story(180, 999999, 0);
        due.is("two of them", x.worn(2, 20, 6), 2000000000);
        x.story(10, 999999, 0);
        due.is("just below: with 10 years more", x.worn(2, 20, 10), 1138746114);
    }

    private static void sets() {
        HollowSteps x = stair();
        x.story(15001600, 1000, 0);
        x.story(15001600, 10000, 0);
        x.story(15001600, 100000, 0);
        int[] want = {0, 90, 900, 990, 9000, 9090, 9900, 9990};
        for (int set = 0; set < 8; set++) {
            due.is("set " + set, x.worn(0, 0, set), want[set]);
        }
    }

    private static void led() {
        HollowSteps x = stair();
        due.is("no stories", x.led(0, 0), -2);
        x.story(15001600, 5000, 200);
        x.story(15001600, 6000, 300);
        x.story(15001600, 6000, 300);
        x.story(15001600, 1, 790);
        due.is("by the first", x.led(0, 1), 0);
        due.is("of like ones the first", x.led(0, 3), 1);
        due.is("the only one there", x.led(0, 7), 3);
        due.is("by the shoe", x.led(1, 0), 3);
        due.is("no wear", x.led(3, 0), -2);
        HollowSteps little = stair();
        little.story(15001501, 0, 0);
        little.story(15001501, 1001, 200);
        due.is("1 is above 0", little.worn(0, 3, 2), 2);
        little.mend(0, 0, 4);
        due.is("1 is above 0", little.worn(0, 7, 2), 1);
        due.is("it leads", little.led(0, 7), 1);
        due.is("set later", x.led(0, 11), -2);
        due.is("led(4, 0)", x.led(4, 0), -1);
        due.is("led(-1, 0)", x.led(-1, 0), -1);
        due.is("led(0, 8)", x.led(0, 8), -1);
        due.is("led(0, 20)", x.led(0, 20), -1);
        due.is("led(0, -1)", x.led(0, -1), -1);
        x.story(2000, 999999, 0);
        x.story(12000, 999999, 1);
        due.is("told more than 2000000000: by longs", x.led(2, 0), 5);
        HollowSteps y = stair();
        y.step(10, 0, 70);
        y.story(2000, 998999, 0);
        y.story(2000, 999999, 0);
        due.is("both above what is told", y.worn(2, 20, 1), 2000000000);
        due.is("the greater one", y.led(2, 20), 1);
    }

    private static void share() {
        HollowSteps x = stair();
        due.is("no such story", x.share(0, 0, 0), -1);
        x.story(15001600, 1000, 10);
        due.is("all of it", x.share(1, 0, 0), 1000);
        x.story(15001600, 2000, 10);
        due.is("333", x.share(1, 0, 0), 333);
        due.is("666", x.share(1, 0, 1), 666);
        due.is("nothing is worn", x.share(3, 0, 0), -2);
        due.is("nothing is worn where it lay later", x.share(1, 1, 0), -2);
        x.story(15001600, 999999, 0);
        due.is("nothing of it", x.share(1, 0, 2), 0);
        share1();
        HollowSteps y = stair();
        y.story(15001600, 10000, 0);
        y.story(15001600, 10000, 400);
        due.is("over all cells: 3 2 1 of 3 2 1 1 2 3 2 1", y.share(0, 0, 0), 400);
        due.is("600", y.share(0, 0, 1), 600);
        int[][] bad = {{-1, 0, 0}, {4, 0, 0}, {0, -1, 0}, {0, 2, 0}, {0, 0, 2}, {0, 0, -1}, {0, 0, 10},
            {0, 0, Integer.MIN_VALUE}};
        for (int[] a : bad) {
            due.is("share(" + a[0] + ", " + a[1] + ", " + a[2] + ")", y.share(a[0], a[1], a[2]), -1);
        }
    }

    /** One unit off one cell is something, and there is no cell 8. */
    private static void share1() {
        HollowSteps x = new HollowSteps();
        Texts.law(x, "(x=7)*4*!d");
        Texts.law(x, "(x=8)*100");
        Texts.law(x, "d*100");
        x.step(10, 1500, 70);
        x.story(15001501, 1000, 0);
        x.story(15001501, 1, 0);
        due.is("one unit is worn", x.share(0, 0, 0), 1000);
        due.is("nothing 8 cells off", x.share(1, 0, 0), -2);
        due.is("d is 1: 100 * 300 / 1000", x.worn(2, 0, 2), 30);
    }

    private static void shareOfMuch() {
        HollowSteps x = stair();
        x.step(10, 0, 70);
        for (int s = 0; s < 10; s++) {
            x.story(2000, 999999, 1);
        }
        for (int s = 0; s < 10; s++) {
            due.is("a tenth", x.share(2, 2, s), 100);
        }
    }
}
