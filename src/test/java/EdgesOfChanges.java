/** Promises 29 and 30: which CHANGES there are, which are kept, UNDONE and DONE AGAIN. */
final class EdgesOfChanges {
    private static final int BAD = -1, STATE = -5;

    private EdgesOfChanges() {
    }

    static void tell(Edges edges) {
        edges.test(29, "CHANGES (MEASURES by telling, HARD, RISES that become another number;", EdgesOfChanges::anotherNumber);
        edges.test(29, "telling the same number is none)", EdgesOfChanges::sameNumber);
        edges.test(29, "can be UNDONE, the latest first", EdgesOfChanges::latestFirst);
        edges.test(29, "UNDONE: how many may still be. STATE: none.", EdgesOfChanges::undoNone);
        edges.test(29, "40 at most are kept.", EdgesOfChanges::fortyAtMost);
        edges.test(30, "and DONE AGAIN (as long as no other came behind);", EdgesOfChanges::noOtherBehind);
        edges.test(30, "DONE AGAIN: how many may still be. STATE: none.", EdgesOfChanges::redoNone);
        edges.test(30, "40 at most are kept.", EdgesOfChanges::fortyDoneAgain);
    }

    private static void anotherNumber(Asked x) {
        x.steps(2);
        x.due(0, "depth", 17, 1);
        x.due(1, "count", 5);
        x.due(1, "mend", 1, 0, 2);
        x.due(2, "count", 5);
        x.due(70, "mend", 1, 1, 71);
        x.due(3, "count", 5);
        x.due(1, "depth", 17, 0);
        x.due(4, "count", 5);
        // What comes to be, what is turned, fed, told by a ROW or refused is none.
        x.call("step", 10, 0, 1);
        x.call("turn", 0, 1600);
        x.call("day", 5);
        x.call("row", 0, 2, 1);
        x.call("put", 0, 0, 9);
        x.due(1, "depths", 0, 0, 0, 1);
        x.refused(BAD, "depth", 17, 100000);
        x.refused(BAD, "mend", 1, 1, 100);
        x.laws("h");
        x.call("story", 0, 0, 0);
        x.due(4, "count", 5);
        x.due(3, "undo");
        x.due(1, "of", 1, 17);
        x.due(2, "undo");
        x.due(70, "of", 1, 3);
        x.due(1, "undo");
        x.due(1, "of", 1, 0);
        x.due(0, "undo");
        x.due(0, "of", 1, 17);
        x.due(9, "of", 0, 10);
    }

    private static void sameNumber(Asked x) {
        x.steps(1);
        x.refused(0, "depth", 0, 0);
        x.refused(1, "mend", 0, 0, 1);
        x.refused(70, "mend", 0, 1, 70);
        x.due(0, "count", 5);
        x.refused(STATE, "undo");
        x.due(0, "depth", 0, 1);
        x.refused(1, "depth", 0, 1);
        x.due(1, "depth", 0, 2);
        x.due(1, "undo");
        // Even what could be DONE AGAIN stays behind a number that is told once more.
        x.refused(1, "depth", 0, 1);
        x.refused(1, "mend", 0, 0, 1);
        x.refused(70, "mend", 0, 1, 70);
        x.due(0, "redo");
        x.due(2, "of", 0, 10);
    }

    private static void latestFirst(Asked x) {
        x.steps(2);
        x.due(0, "depth", 0, 10);
        x.due(10, "depth", 0, 20);
        x.due(1, "mend", 1, 0, 5);
        x.due(20, "depth", 0, 30);
        x.due(70, "mend", 0, 1, 80);
        x.due(4, "undo");
        x.due(70, "of", 0, 3);
        x.due(30, "of", 0, 10);
        x.due(3, "undo");
        x.due(20, "of", 0, 10);
        x.due(5, "of", 1, 0);
        x.due(2, "undo");
        x.due(1, "of", 1, 0);
        x.due(1, "undo");
        x.due(10, "of", 0, 10);
        x.due(0, "undo");
        x.due(0, "of", 0, 10);
        x.refused(STATE, "undo");
    }

    private static void undoNone(Asked x) {
        x.refused(STATE, "undo");
        x.steps(1);
        x.refused(STATE, "undo");
        x.due(0, "depth", 0, 5);
        x.due(0, "undo");
        x.due(0, "count", 5);
        x.refused(STATE, "undo");
        x.due(0, "redo");
        x.due(1, "count", 5);
        x.due(5, "depth", 0, 6);
        x.due(1, "undo");
        x.due(0, "undo");
        x.refused(STATE, "undo");
    }

    /** n CHANGES of one CELL to 1, 2, .. n. */
    private static Asked changed(Asked x, int n) {
        Asked y = x.another();
        y.steps(1);
        for (int v = 1; v <= n; v++) {
            y.due(v - 1, "depth", 5, v);
            y.due(Math.min(v, 40), "count", 5);
        }
        return y;
    }

    private static void undoAll(Asked x, int kept, int last) {
        for (int left = kept - 1; left >= 0; left--) {
            x.due(left, "undo");
            x.due(last - kept + left, "of", 0, 15);
        }
        x.refused(STATE, "undo");
    }

    private static void fortyAtMost(Asked x) {
        undoAll(changed(x, 39), 39, 39);
        undoAll(changed(x, 40), 40, 40);
        undoAll(changed(x, 41), 40, 41);
        undoAll(changed(x, 42), 40, 42);
        undoAll(changed(x, 81), 40, 81);
        // One UNDONE, another told: it takes the place, and the oldest stays.
        Asked y = changed(x, 40);
        y.due(39, "undo");
        y.due(39, "depth", 5, 40);
        y.due(40, "count", 5);
        undoAll(y, 40, 40);
        // HARD and RISE push the oldest out, too.
        Asked z = changed(x, 40);
        z.due(1, "mend", 0, 0, 2);
        z.due(70, "mend", 0, 1, 71);
        z.due(40, "count", 5);
        z.due(39, "undo");
        z.due(70, "of", 0, 3);
        z.due(38, "undo");
        z.due(1, "of", 0, 0);
        for (int left = 37; left >= 0; left--) {
            z.due(left, "undo");
        }
        z.due(2, "of", 0, 15);
        z.refused(STATE, "undo");
    }

    private static void noOtherBehind(Asked x) {
        x.steps(1);
        x.depths(0, 1, 2, 3);
        x.due(2, "undo");
        x.due(1, "undo");
        x.due(1, "redo");
        x.due(2, "of", 0, 11);
        x.due(0, "depth", 7, 9);
        x.refused(STATE, "redo");
        x.due(3, "count", 5);
        x.due(0, "of", 0, 12);
        x.due(2, "undo");
        x.due(0, "of", 0, 17);
        x.due(0, "redo");
        x.due(9, "of", 0, 17);
        x.due(2, "undo");
        x.due(1, "mend", 0, 0, 3);
        x.refused(STATE, "redo");
        x.due(2, "undo");
        x.due(70, "mend", 0, 1, 3);
        x.refused(STATE, "redo");
        x.due(2, "undo");
        // What is none of the CHANGES does not come behind.
        x.call("turn", 0, 1500);
        x.call("step", 10, 0, 1);
        x.refused(BAD, "depth", 0, -1);
        x.due(0, "redo");
        x.due(3, "of", 0, 3);
    }

    private static void redoNone(Asked x) {
        x.refused(STATE, "redo");
        x.steps(1);
        x.refused(STATE, "redo");
        x.due(0, "depth", 0, 5);
        x.refused(STATE, "redo");
        x.due(0, "undo");
        x.due(0, "redo");
        x.due(5, "of", 0, 10);
        x.refused(STATE, "redo");
        x.due(0, "depth", 1, 6);
        x.due(70, "mend", 0, 1, 99);
        x.due(2, "undo");
        x.due(1, "undo");
        x.due(0, "undo");
        x.due(2, "redo");
        x.due(1, "redo");
        x.due(70, "of", 0, 3);
        x.due(0, "redo");
        x.due(99, "of", 0, 3);
        x.refused(STATE, "redo");
    }

    private static void redoAll(Asked x, int kept, int last) {
        for (int n = 0; n < kept; n++) {
            x.call("undo");
        }
        for (int left = kept - 1; left >= 0; left--) {
            x.due(left, "redo");
            x.due(last - left, "of", 0, 15);
            x.due(kept - left, "count", 5);
        }
        x.refused(STATE, "redo");
    }

    private static void fortyDoneAgain(Asked x) {
        redoAll(changed(x, 39), 39, 39);
        redoAll(changed(x, 40), 40, 40);
        redoAll(changed(x, 41), 40, 41);
        redoAll(changed(x, 60), 40, 60);
    }
}
