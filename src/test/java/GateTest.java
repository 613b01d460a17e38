/** Promises 26 to 30: the day's counts, walks, and changes undone and done again. */
public final class GateTest {
    private static final Due due = new Due("gate");

    public static void main(String[] args) {
        day();
        gate();
        walk();
        undoAndRedo();
        changesThatAreNone();
        redoIsLost();
        fortyAtMost();
        fortyOneByOne();
        undoBehindATurn();
        due.end();
    }

    private static void day() {
        HollowSteps x = new HollowSteps();
        for (int v : new int[] {-1, 10000, Integer.MIN_VALUE, Integer.MAX_VALUE}) {
            due.is("day(" + v + ")", x.day(v), -1);
        }
        for (int i = 1; i <= 30; i++) {
            due.is("day " + i, x.day(i == 1 ? 0 : 9999), i);
        }
        due.is("a 31st", x.day(5), -3);
        due.is("a 31st not as said", x.day(-5), -1);
        due.is("30 counts", x.count(4), 30);
        due.is("29 * 9999 / 30", x.gate(0), 9665);
        due.is("the middle", x.gate(1), 9999);
    }

    private static void gate() {
        HollowSteps x = new HollowSteps();
        due.is("no counts", x.gate(0), -5);
        due.is("no counts", x.gate(1), -5);
        due.is("not as said", x.gate(2), -1);
        due.is("not as said", x.gate(-1), -1);
        int[] days = {50, 10, 40, 10, 9999, 11, 50, 0};
        int[] means = {50, 30, 33, 27, 2021, 1686, 1452, 1271};
        int[] middles = {50, 10, 40, 10, 40, 11, 40, 11};
        for (int i = 0; i < days.length; i++) {
            x.day(days[i]);
            due.is("mean of " + (i + 1), x.gate(0), means[i]);
            due.is("middle of " + (i + 1), x.gate(1), middles[i]);
        }
        due.is("not as said with counts", x.gate(2), -1);
        HollowSteps near = new HollowSteps();
        near.day(12);
        near.day(11);
        near.day(10);
        due.is("counts side by side", near.gate(1), 11);
        near.day(12);
        near.day(12);
        due.is("10 11 12 12 12", near.gate(1), 12);
    }

    private static void walk() {
        HollowSteps x = new HollowSteps();
        due.is("no counts", x.walk(1, 1), -5);
        due.is("not as said", x.walk(0, 1), -1);
        x.day(7);
        due.is("one count", x.walk(100, 12345), 700);
        x.day(1000);
        x.day(100);
        // z is 12345, then 12345 * 1103515245 + 12345 as an int, ..; z >>> 8 is 48, 13842170, ..
        due.is("seed 0: 48 % 3 is 0", x.walk(1, 0), 7);
        due.is("seed 0, two days", x.walk(2, 0), 7 + countAt(x, -740551042));
        due.is("seed 1: 1103527590 >>> 8 is 4310654, % 3 is 2", x.walk(1, 1), 100);
        due.is("seed -1: -1103502900 >>> 8 is 12466657, % 3 is 1", x.walk(1, -1), 1000);
        for (int n : new int[] {0, -1, 101, Integer.MIN_VALUE, Integer.MAX_VALUE}) {
            due.is("walk(" + n + ", 1)", x.walk(n, 1), -1);
        }
        int[] counts = {7, 1000, 100};
        for (int n = 1; n <= 100; n++) {
            int z = -99;
            int sum = 0;
            for (int d = 0; d < n; d++) {
                z = z * 1103515245 + 12345;
                sum += counts[(z >>> 8) % 3];
            }
            due.is("walk(" + n + ", -99)", x.walk(n, -99), sum);
        }
    }

    /** The count that a z, worked out by hand, leads to. */
    private static int countAt(HollowSteps x, int z) {
        due.is("the second z of seed 0", 12345 * 1103515245 + 12345, z);
        return new int[] {7, 1000, 100}[(z >>> 8) % 3];
    }

    private static HollowSteps stair() {
        HollowSteps x = new HollowSteps();
        x.step(50, 0, 70);
        x.step(50, 0, 70);
        return x;
    }

    private static void undoAndRedo() {
        HollowSteps x = stair();
        due.is("nothing to undo", x.undo(), -5);
        due.is("nothing to do again", x.redo(), -5);
        x.depth(13, 10);
        x.mend(0, 0, 6);
        x.mend(0, 1, 80);
        x.depth(13, 20);
        due.is("four changes", x.count(5), 4);
        due.is("undo the depth", x.undo(), 3);
        due.is("the depth before", x.of(1, 13), 10);
        due.is("undo the rise", x.undo(), 2);
        due.is("the rise before", x.of(0, 3), 70);
        due.is("the hardness stays", x.of(0, 0), 6);
        due.is("undo the hardness", x.undo(), 1);
        due.is("the hardness before", x.of(0, 0), 5);
        due.is("undo the first", x.undo(), 0);
        due.is("no depth", x.of(1, 13), 0);
        due.is("nothing more", x.undo(), -5);
        due.is("none to undo", x.count(5), 0);
        due.is("do again", x.redo(), 3);
        due.is("the first depth", x.of(1, 13), 10);
        due.is("do again", x.redo(), 2);
        due.is("the hardness", x.of(0, 0), 6);
        due.is("undo it", x.undo(), 1);
        due.is("the hardness before", x.of(0, 0), 5);
        due.is("do again", x.redo(), 2);
        due.is("do again", x.redo(), 1);
        due.is("the rise", x.of(0, 3), 80);
        due.is("do again", x.redo(), 0);
        due.is("the second depth", x.of(1, 13), 20);
        due.is("nothing more", x.redo(), -5);
        due.is("four to undo", x.count(5), 4);
    }

    private static void changesThatAreNone() {
        HollowSteps x = stair();
        x.depth(0, 0);
        x.mend(0, 0, 5);
        x.mend(0, 1, 70);
        x.depth(0, 100000);
        x.mend(0, 1, 100);
        due.is("no changes", x.count(5), 0);
        x.depth(0, 5);
        x.depth(1, 5);
        x.undo();
        x.depth(0, 5);
        x.mend(1, 0, 5);
        x.depth(0, -1);
        x.turn(1, 5);
        x.day(5);
        x.step(10, 0, 5);
        due.is("none came behind", x.redo(), 0);
        due.is("the second depth", x.of(0, 11), 5);
    }

    private static void redoIsLost() {
        HollowSteps x = stair();
        for (int v = 1; v <= 5; v++) {
            x.depth(0, v);
        }
        x.undo();
        x.undo();
        HollowSteps first = stair();
        first.mend(0, 1, 99);
        first.undo();
        due.is("the first, from another number than 0", first.of(0, 3), 70);
        x.mend(1, 1, 7);
        due.is("another came behind", x.redo(), -5);
        due.is("four to undo", x.count(5), 4);
        due.is("the other first", x.undo(), 3);
        due.is("the rise before", x.of(1, 3), 70);
        due.is("of(0, 10)", x.of(0, 10), 3);
        due.is("the third", x.undo(), 2);
        due.is("of(0, 10)", x.of(0, 10), 2);
        due.is("do again", x.redo(), 1);
        due.is("do again", x.redo(), 0);
        due.is("the rise", x.of(1, 3), 7);
    }

    private static void fortyAtMost() {
        HollowSteps x = stair();
        for (int v = 1; v <= 43; v++) {
            x.depth(v % 8, v);
            due.is("changes", x.count(5), Math.min(v, 40));
        }
        for (int left = 39; left >= 0; left--) {
            due.is("undo", x.undo(), left);
        }
        due.is("the first three are kept no more", x.undo(), -5);
        int[] first = {0, 1, 2, 3, 0, 0, 0, 0};
        for (int c = 0; c < 8; c++) {
            due.is("of(0, 1" + c + ")", x.of(0, 10 + c), first[c]);
        }
        for (int left = 39; left >= 0; left--) {
            due.is("do again", x.redo(), left);
        }
        due.is("all are done", x.redo(), -5);
        int[] last = {40, 41, 42, 43, 36, 37, 38, 39};
        for (int c = 0; c < 8; c++) {
            due.is("of(0, 1" + c + ") again", x.of(0, 10 + c), last[c]);
        }
        x.undo();
        x.depth(17, 5);
        due.is("forty again", x.count(5), 40);
        due.is("undo", x.undo(), 39);
        due.is("of(0, 13)", x.of(0, 13), 35);
        due.is("of(1, 17)", x.of(1, 17), 0);
    }

    /** Each change has its own number before, so that every one that is undone tells whose it was. */
    private static void fortyOneByOne() {
        HollowSteps x = stair();
        for (int v = 1; v <= 44; v++) {
            x.depth(0, v);
        }
        for (int v = 43; v >= 4; v--) {
            x.undo();
            due.is("undone to " + v, x.of(0, 10), v);
        }
        due.is("the oldest that is kept", x.undo(), -5);
        for (int v = 5; v <= 44; v++) {
            x.redo();
            due.is("done again to " + v, x.of(0, 10), v);
        }
    }

    private static void undoBehindATurn() {
        HollowSteps x = stair();
        x.depth(0, 30);
        x.depth(0, 40);
        x.turn(0, 1);
        x.depth(1, 9);
        due.is("undo above", x.undo(), 2);
        due.is("of(0, 11)", x.of(0, 11), 0);
        due.is("undo the one ahead of the turn", x.undo(), 1);
        due.is("the MEASURE becomes what it was", x.of(0, 10), 30);
        due.is("what lies below stays", x.older(0), 40);
        due.is("do again", x.redo(), 1);
        due.is("of(0, 10)", x.of(0, 10), 40);
    }
}
