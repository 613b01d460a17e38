/** Promises 1 to 8: a new object, steps and their measures. */
public final class StepsTest {
    private static final Due due = new Due("steps");

    public static void main(String[] args) {
        aNewObject();
        step();
        stepFull();
        of();
        depth();
        mend();
        depths();
        depthsThatEnd();
        depthsAreNoChanges();
        turn();
        older();
        due.end();
    }

    private static void aNewObject() {
        HollowSteps x = new HollowSteps();
        for (int what = 0; what <= 7; what++) {
            due.is("new: count(" + what + ")", x.count(what), 0);
        }
        due.is("new: of(0, 0)", x.of(0, 0), -1);
        due.is("new: undo()", x.undo(), -5);
        due.is("new: redo()", x.redo(), -5);
        due.is("new: taken(0, 0)", x.taken(0, 0), -11);
        due.is("new: trace(0)", x.trace(0), -1);
        due.is("new: other object's steps", new HollowSteps().step(10, 0, 1) + x.count(0), 0);
    }

    private static void step() {
        HollowSteps x = new HollowSteps();
        int[][] bad = {{9, 0, 1}, {0, 0, 1}, {1, 0, 1}, {12, 0, 1}, {19, 0, 1}, {92, 0, 1}, {100, 0, 1}, {101, 0, 1},
            {-10, 0, 1}, {-41, 0, 1}, {Integer.MIN_VALUE, 0, 1}, {Integer.MAX_VALUE, 0, 1}, {40, -1, 1},
            {40, 2001, 1}, {40, 0, 0}, {40, 0, 100}, {40, 0, -1}};
        for (int[] a : bad) {
            due.is("step(" + a[0] + ", " + a[1] + ", " + a[2] + ")", x.step(a[0], a[1], a[2]), -1);
        }
        due.is("no step came", x.count(0), 0);
        due.is("step(10, 0, 1)", x.step(10, 0, 1), 0);
        due.is("step(91, 2000, 99)", x.step(91, 2000, 99), 1);
        due.is("two steps", x.count(0), 2);
    }

    private static void stepFull() {
        HollowSteps x = new HollowSteps();
        for (int i = 0; i < 40; i++) {
            due.is("step " + i, x.step(50, 1000, 70), i);
        }
        due.is("step 40", x.step(50, 1000, 70), -3);
        due.is("step 40, not as said", x.step(50, 1000, 0), -1);
        due.is("still 40", x.count(0), 40);
        due.is("of(39, 2)", x.of(39, 2), 1000);
        due.is("of(40, 2)", x.of(40, 2), -1);
        due.is("depth(397, 3)", x.depth(397, 3), 0);
        due.is("depth(400, 3)", x.depth(400, 3), -1);
    }

    private static void of() {
        HollowSteps x = new HollowSteps();
        x.step(71, 1500, 70);
        x.step(30, 1600, 64);
        x.step(40, 1700, 80);
        int[][] told = {{7, 1, 1500, 70, 0, 0}, {3, 0, 1600, 64, 6, 0}, {4, 0, 1700, 80, 16, 0}};
        for (int step = 0; step < 3; step++) {
            for (int what = 0; what < 6; what++) {
                due.is("of(" + step + ", " + what + ")", x.of(step, what), told[step][what]);
            }
        }
        for (int what : new int[] {-1, 6, 9, 18, 100, Integer.MIN_VALUE, Integer.MAX_VALUE}) {
            due.is("of(1, " + what + ")", x.of(1, what), -1);
        }
        due.is("of(-1, 0)", x.of(-1, 0), -1);
        due.is("of(3, 0)", x.of(3, 0), -1);
        due.is("of(MIN, 0)", x.of(Integer.MIN_VALUE, 0), -1);
        for (int c = 0; c < 8; c++) {
            due.is("of(2, 1" + c + ")", x.of(2, 10 + c), 0);
        }
    }

    private static void depth() {
        HollowSteps x = new HollowSteps();
        x.step(10, 0, 1);
        x.step(10, 0, 1);
        for (int c = 0; c < 8; c++) {
            due.is("depth(1" + c + ")", x.depth(10 + c, 100 + c), 0);
        }
        for (int c = 0; c < 8; c++) {
            due.is("again depth(1" + c + ")", x.depth(10 + c, 99999 - c), 100 + c);
            due.is("of(1, 1" + c + ")", x.of(1, 10 + c), 99999 - c);
            due.is("of(0, 1" + c + ")", x.of(0, 10 + c), 0);
        }
        int[][] bad = {{18, 1}, {19, 1}, {20, 1}, {-1, 1}, {-10, 1}, {Integer.MIN_VALUE, 1}, {Integer.MAX_VALUE, 1},
            {10, -1}, {10, 100000}, {10, Integer.MAX_VALUE}};
        for (int[] a : bad) {
            due.is("depth(" + a[0] + ", " + a[1] + ")", x.depth(a[0], a[1]), -1);
        }
        due.is("16 changes", x.count(5), 16);
        due.is("depth(10, 0)", x.depth(10, 0), 99999);
        due.is("of(1, 10)", x.of(1, 10), 0);
    }

    private static void mend() {
        HollowSteps x = new HollowSteps();
        x.step(51, 0, 70);
        x.step(50, 0, 70);
        due.is("mend(0, 0, 9)", x.mend(0, 0, 9), 5);
        due.is("of(0, 0)", x.of(0, 0), 9);
        due.is("of(0, 1)", x.of(0, 1), 1);
        due.is("mend(0, 0, 1)", x.mend(0, 0, 1), 9);
        due.is("mend(0, 1, 99)", x.mend(0, 1, 99), 70);
        due.is("of(0, 3)", x.of(0, 3), 99);
        due.is("of(0, 4)", x.of(0, 4), 0);
        due.is("of(1, 4)", x.of(1, 4), 29);
        due.is("mend(0, 1, 1)", x.mend(0, 1, 1), 99);
        due.is("of(1, 4) above", x.of(1, 4), 69);
        int[][] bad = {{2, 0, 1}, {-1, 0, 1}, {0, 2, 1}, {0, -1, 1}, {0, 0, 0}, {0, 0, 10}, {0, 1, 0}, {0, 1, 100},
            {0, 1, -1}, {Integer.MAX_VALUE, 0, 1}, {0, Integer.MIN_VALUE, 1}, {0, 1, Integer.MIN_VALUE}};
        for (int[] a : bad) {
            due.is("mend(" + a[0] + ", " + a[1] + ", " + a[2] + ")", x.mend(a[0], a[1], a[2]), -1);
        }
        due.is("4 changes", x.count(5), 4);
    }

    private static HollowSteps withRow(int sort, long... elements) {
        HollowSteps x = new HollowSteps();
        x.step(10, 0, 1);
        x.step(10, 0, 1);
        x.row(3, sort, elements.length);
        for (int i = 0; i < elements.length; i++) {
            x.put(3, i, elements[i]);
        }
        return x;
    }

    private static void depths() {
        HollowSteps x = withRow(2, 10, 20, 30, 40, 50, 60, 70, 80, 90, 99999);
        due.is("depths(0, 3, 0, 8)", x.depths(0, 3, 0, 8), 8);
        for (int c = 0; c < 8; c++) {
            due.is("of(0, 1" + c + ")", x.of(0, 10 + c), 10 * c + 10);
        }
        due.is("depths(1, 3, 8, 2)", x.depths(1, 3, 8, 2), 2);
        due.is("of(1, 10)", x.of(1, 10), 90);
        due.is("of(1, 11)", x.of(1, 11), 99999);
        due.is("of(1, 12)", x.of(1, 12), 0);
        due.is("depths(0, 3, 4, 1)", x.depths(0, 3, 4, 1), 1);
        due.is("of(0, 10) became", x.of(0, 10), 50);
        due.is("of(0, 11) stays", x.of(0, 11), 20);
        int[][] bad = {{2, 3, 0, 1}, {-1, 3, 0, 1}, {0, 6, 0, 1}, {0, -1, 0, 1}, {0, 3, 0, 0}, {0, 3, 0, 9},
            {0, 3, 0, -1}, {0, 3, 0, Integer.MAX_VALUE}, {2, 0, 0, 1}, {0, 0, 0, 9}};
        for (int[] a : bad) {
            due.is("depths " + java.util.Arrays.toString(a), x.depths(a[0], a[1], a[2], a[3]), -1);
        }
    }

    private static void depthsThatEnd() {
        HollowSteps zero = withRow(2, 5, 0, 7);
        zero.depth(1, 9);
        due.is("0 is a depth, too", zero.depths(0, 3, 0, 3), 3);
        due.is("of(0, 11)", zero.of(0, 11), 0);
        due.is("of(0, 12)", zero.of(0, 12), 7);
        HollowSteps x = withRow(2, 1, 2, 100000, 4, -1, 6);
        due.is("not so at once: too deep", x.depths(0, 3, 2, 8), 0);
        due.is("not so at once: below 0", x.depths(0, 3, 4, 8), 0);
        due.is("the step is as it was", x.of(0, 10), 0);
        due.is("two ahead of one too deep", x.depths(0, 3, 0, 8), 2);
        due.is("of(0, 11)", x.of(0, 11), 2);
        due.is("of(0, 12)", x.of(0, 12), 0);
        due.is("one ahead of one below 0", x.depths(0, 3, 3, 5), 1);
        due.is("the row ends", x.depths(1, 3, 5, 2), 1);
        due.is("of(1, 10)", x.of(1, 10), 6);
        due.is("behind its end", x.depths(1, 3, 6, 2), 0);
        due.is("far behind", x.depths(1, 3, Integer.MAX_VALUE, 8), 0);
        due.is("ahead of it", x.depths(1, 3, -1, 8), 0);
        due.is("far ahead", x.depths(1, 3, Integer.MIN_VALUE, 8), 0);
        due.is("missing", x.depths(1, 2, 0, 8), 0);
        x.keep(3, -1);
        due.is("missing again", x.depths(1, 3, 0, 8), 0);
        due.is("of(1, 10) stays", x.of(1, 10), 6);
        x.row(3, 2, 0);
        due.is("a row of none", x.depths(1, 3, 0, 8), 0);
        for (int sort : new int[] {0, 1, 3, 4}) {
            due.is("sort " + sort, withRow(sort, 1, 1, 1).depths(0, 3, 0, 2), -12);
            due.is("sort " + sort + ", no place", withRow(sort, 1, 1, 1).depths(0, 3, 9, 2), -12);
        }
        x.body(0);
        x.keep(3, 0);
        due.is("a wear", x.depths(0, 3, 0, 2), -12);
    }

    private static void depthsAreNoChanges() {
        HollowSteps x = withRow(2, 5, 6, 7);
        x.depth(0, 1);
        x.depth(1, 1);
        x.undo();
        x.depths(0, 3, 0, 3);
        due.is("one to undo", x.count(5), 1);
        due.is("what was undone can be done again", x.redo(), 0);
        due.is("of(0, 11)", x.of(0, 11), 1);
        due.is("of(0, 10)", x.of(0, 10), 5);
        due.is("undo", x.undo(), 1);
        due.is("undo", x.undo(), 0);
        due.is("of(0, 10)", x.of(0, 10), 0);
        due.is("of(0, 11)", x.of(0, 11), 0);
        due.is("of(0, 12)", x.of(0, 12), 7);
    }

    private static void turn() {
        HollowSteps x = new HollowSteps();
        x.step(10, 1500, 1);
        x.depth(0, 99999);
        x.depth(3, 7);
        x.depth(7, 500);
        int[][] bad = {{0, 1499}, {0, 2001}, {0, -1}, {1, 1600}, {-1, 1600}, {0, Integer.MAX_VALUE}};
        for (int[] a : bad) {
            due.is("turn(" + a[0] + ", " + a[1] + ")", x.turn(a[0], a[1]), -1);
        }
        due.is("not turned", x.of(0, 5), 0);
        due.is("turn in the year it was set", x.turn(0, 1500), 100506);
        due.is("turned", x.of(0, 5), 1);
        for (int c = 0; c < 8; c++) {
            due.is("of(0, 1" + c + ")", x.of(0, 10 + c), 0);
        }
        x.depth(1, 40);
        due.is("turn again", x.turn(0, 1700), 40);
        due.is("set", x.of(0, 2), 1700);
        due.is("still turned", x.of(0, 5), 1);
        due.is("of(0, 10)", x.of(0, 10), 99999);
        due.is("of(0, 11)", x.of(0, 11), 0);
        due.is("of(0, 17)", x.of(0, 17), 500);
        due.is("before the year it is set now", x.turn(0, 1699), -1);
        due.is("a third time", x.turn(0, 2000), 100506);
        due.is("of(0, 11)", x.of(0, 11), 40);
        due.is("no changes by turning", x.count(5), 4);
    }

    private static void older() {
        HollowSteps x = new HollowSteps();
        x.step(10, 1500, 1);
        x.step(10, 1500, 1);
        x.depth(0, 10);
        x.depth(5, 20);
        due.is("never turned", x.older(0), -5);
        due.is("older(2)", x.older(2), -1);
        due.is("older(-1)", x.older(-1), -1);
        x.turn(0, 1600);
        due.is("older(0)", x.older(0), 30);
        due.is("older(1)", x.older(1), -5);
        x.depth(2, 99);
        due.is("what is told now lies above", x.older(0), 30);
        x.turn(0, 1600);
        due.is("older(0) turned again", x.older(0), 99);
        x.turn(1, 1600);
        due.is("nothing below", x.older(1), 0);
    }
}
