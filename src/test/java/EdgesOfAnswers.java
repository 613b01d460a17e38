import java.util.ArrayList;
import java.util.List;

/** What the terms say of all answers: which numbers they are, which comes first, and that refusals change nothing. */
final class EdgesOfAnswers {
    private static final int BAD = -1, NOT = -2, FULL = -3, BIG = -4, STATE = -5;
    private static final int LEAST = Integer.MIN_VALUE, MOST = Integer.MAX_VALUE;

    private EdgesOfAnswers() {
    }

    static void tell(Edges edges) {
        edges.test(1, "BAD (-1): no such number, or it is not as said; NOT (-2): as told; FULL (-3); BIG (-4); STATE (-5): "
                + "as told; -11 to -14.", x -> constants(edges));
        edges.test(1, "VOID is -2000000000.", x -> edges.is("VOID", HollowSteps.VOID, -2000000000));
        edges.test(1, "Answers, of several the one named first:", EdgesOfAnswers::namedFirst);
        edges.test(1, "What is answered so changes nothing.", EdgesOfAnswers::changesNothing);
        edges.test(1, "An object is used for at most 512 calls after it has been made; what later calls answer is free.",
                EdgesOfAnswers::lastOfTheDearest);
    }

    private static void constants(Edges edges) {
        edges.is("BAD", HollowSteps.BAD, BAD);
        edges.is("NOT", HollowSteps.NOT, NOT);
        edges.is("FULL", HollowSteps.FULL, FULL);
        edges.is("BIG", HollowSteps.BIG, BIG);
        edges.is("STATE", HollowSteps.STATE, STATE);
    }

    /** Calls for which more than one answer would do, on an object where all places are taken. */
    private static void namedFirst(Asked x) {
        full(x);
        x.refused(BAD, "step", 9, 0, 1);
        x.refused(BAD, "story", 1, 0, 2);
        x.refused(BAD, "feed", 0, 0);
        x.refused(BAD, "day", 10000);
        x.refused(BAD, "body", 8);
        x.refused(BAD, "fits", 0, 1023, 0, 2);
        x.refused(BIG, "fits", 0, 1023, 0, 1);
        x.refused(BAD, "best", 4, 1023, 0);
        x.refused(BIG, "best", 0, 1023, 0);
        x.refused(BAD, "led", 1, 8);
        x.refused(NOT, "led", 1, 0);
        x.refused(BAD, "share", 1, 0, 10);
        x.refused(NOT, "share", 1, 0, 0);
        x.refused(BAD, "rail", 0, 0, 2);
        x.refused(NOT, "rail", 0, 0, 0);
        x.refused(BAD, "feet", 1, 0, 10, 0);
        x.refused(NOT, "feet", 1, 0, 0, 0);
        x.refused(BAD, "other", 1, 80);
        x.refused(NOT, "other", 1, 0);
        x.refused(BAD, "renewed", 0, 0, 2);
        x.refused(NOT, "renewed", 0, 0, 0);
        x.refused(BAD, "next", 1, 0, 1024);
        x.refused(NOT, "next", 1, 0, 1023);
        x.refused(BAD, "slipped", 1, 8, 0);
        x.refused(NOT, "slipped", 1, 0, 0);
        x.refused(BAD, "older", 40);
        x.refused(STATE, "older", 39);
        x.refused(BAD, "depths", 0, 5, 0, 9);
        x.refused(-12, "depths", 0, 5, 0, 8);
        x.refused(BAD, "row", 0, 5, -1);
        x.refused(-14, "row", 0, 4, -1);
    }

    /** All STEPS, LAWS, STORIES, counts and WEARS there can be; LAW 1 takes nothing; SHELF 5 holds a WEAR. */
    private static void full(Asked x) {
        x.steps(40);
        x.laws("9-x", "0", "d", "s");
        for (int s = 0; s < 10; s++) {
            x.due(s, "story", 15001600, 1000, 0);
        }
        for (int n = 1; n <= 30; n++) {
            x.due(n, "day", n);
        }
        for (int n = 0; n < 50; n++) {
            x.due(n, "body", n % 8);
        }
        x.feed("1".repeat(120));
        x.due(1, "keep", 5, 3);
        x.refused(FULL, "step", 10, 0, 1);
        x.refused(FULL, "law");
        x.refused(FULL, "story", 0, 0, 0);
        x.refused(FULL, "feed", 1, 0);
        x.refused(FULL, "day", 0);
        x.refused(FULL, "body", 0);
    }

    /** Calls that are refused, one behind another, among others that are not: each is looked behind. */
    private static void changesNothing(Asked x) {
        some(x);
        for (Call call : refusedCalls()) {
            x.refused(BAD, call.name(), call.args());
        }
        x.due(2, "undo");
        for (Call call : refusedCalls()) {
            x.refused(BAD, call.name(), call.args());
        }
        x.due(0, "redo");
        x.refused(STATE, "redo");
        x.refused(STATE, "older", 0);
        x.refused(NOT, "led", 0, 17);
        x.refused(BIG, "fits", 0, 1023, 0, 0);
    }

    private static void some(Asked x) {
        x.steps(2);
        x.laws("(x=0)*10");
        for (int s = 0; s < 10; s++) {
            x.due(s, "story", 15001600, 1000, 0);
        }
        x.depths(1, 4, 5, 6);
        x.feed("h+w");
        x.due(1, "day", 4);
        x.due(0, "body", 7);
        x.due(1, "keep", 0, 0);
        x.due(1, "row", 1, 2, 4);
        x.due(1, "put", 1, 2, 77);
        x.due(8, "act", 0, 1, 1);
    }

    /** Of each call that can answer BAD at least one that does. */
    private static List<Call> refusedCalls() {
        List<Call> calls = new ArrayList<>();
        calls.add(new Call("step", 9, 0, 1));
        calls.add(new Call("of", 2, 0));
        calls.add(new Call("depth", 10, 100000));
        calls.add(new Call("depth", 18, 5));
        calls.add(new Call("mend", 1, 0, 10));
        calls.add(new Call("mend", 1, 1, 0));
        calls.add(new Call("depths", 1, 1, 2, 9));
        calls.add(new Call("turn", 1, 1499));
        calls.add(new Call("older", 2));
        calls.add(new Call("feed", 5, 'h'));
        calls.add(new Call("takes", 0, 0, 200));
        calls.add(new Call("story", 15001499, 0, 0));
        calls.add(new Call("worn", 0, 0, 1024));
        calls.add(new Call("led", 0, 18));
        calls.add(new Call("share", 0, 0, 10));
        calls.add(new Call("rail", 0, 100000, 0));
        calls.add(new Call("feet", 0, 0, 10, 0));
        calls.add(new Call("shares", 0, 0, 80, 0));
        calls.add(new Call("other", 0, 80));
        calls.add(new Call("renewed", 0, 2001, 0));
        calls.add(new Call("fits", 0, 1023, 100000, 0));
        calls.add(new Call("best", 0, 1023, 2));
        calls.add(new Call("next", 0, 1024, 0));
        calls.add(new Call("slipped", 0, 8, 0));
        calls.add(new Call("day", 10000));
        calls.add(new Call("gate", 2));
        calls.add(new Call("walk", 101, 0));
        calls.add(new Call("body", 8));
        calls.add(new Call("trace", 5));
        calls.add(new Call("keep", 0, 1));
        calls.add(new Call("row", 1, 5, 4));
        calls.add(new Call("put", 6, 0, 1));
        calls.add(new Call("shift", 1, 0, 6, 0, 1));
        calls.add(new Call("taken", 0, 8));
        calls.add(new Call("count", 8));
        return calls;
    }

    /** The dearest calls that there are, up to the 512th; they answer as at first. */
    private static void lastOfTheDearest(Asked x) {
        x.steps(40);
        x.laws("9-x+k");
        for (int s = 0; s < 8; s++) {
            x.due(s, "story", 15001600, 1000 << s, 100 * s + 1);
        }
        x.depths(0, 3, 9, 27, 81, 243, 729, 2187, 6561);
        long fits = x.call("fits", 0, 255, 6000, 0);
        long best = x.call("best", 0, 255, 1);
        long other = x.call("other", 0, 30);
        for (int n = 65; n < 512; n += 4) {
            x.due(fits, "fits", 0, 255, 6000, 0);
            x.due(best, "best", 0, 255, 1);
            x.due(other, "other", 0, 30);
            x.due(BAD, "other", LEAST, MOST);
        }
    }
}
