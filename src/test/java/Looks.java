import java.util.ArrayList;
import java.util.List;

/**
 * Runs of calls that show all of an object that can be seen: what it holds, what can be UNDONE and
 * DONE AGAIN, what lies on THE TAPE. Each run is for an object of its own, as some of them change it.
 */
final class Looks {
    private static final int SHELVES = 6, LONGEST_ROW = 60;

    private final int steps;
    private final int laws;
    private final int stories;
    private final int wears;

    private Looks(HollowSteps x) {
        steps = x.count(0);
        laws = x.count(1);
        stories = x.count(2);
        wears = x.count(6);
    }

    static HollowSteps told(List<Call> calls) {
        HollowSteps x = new HollowSteps();
        for (Call call : calls) {
            call.on(x);
        }
        return x;
    }

    /** Runs for an object that was told these calls, each as long as its 512 calls let it. */
    static List<List<Call>> at(List<Call> calls) {
        // One call is left for the refused one that stands behind these.
        int room = Asked.MOST_CALLS - calls.size() - 1;
        if (room < 20) {
            throw new IllegalStateException("no calls are left to look with");
        }
        Looks looks = new Looks(told(calls));
        List<List<Call>> runs = new ArrayList<>();
        List<Call> reading = looks.reading();
        for (int from = 0; from < reading.size(); from += room) {
            runs.add(reading.subList(from, Math.min(reading.size(), from + room)));
        }
        for (List<Call> run : List.of(looks.undoing(), looks.doingAgain(), looks.acting(), looks.onTheTape())) {
            runs.add(run.subList(0, Math.min(run.size(), room)));
        }
        return runs;
    }

    private List<Call> reading() {
        List<Call> run = new ArrayList<>();
        for (int what = 0; what < 8; what++) {
            run.add(new Call("count", what));
        }
        for (int i = 0; i < 9; i++) {
            run.add(new Call("trace", i));
        }
        for (int step = 0; step < steps; step++) {
            for (int what = 0; what < 18; what++) {
                run.add(new Call("of", step, what));
            }
            run.add(new Call("older", step));
        }
        readLawsAndStories(run);
        run.add(new Call("gate", 0));
        run.add(new Call("gate", 1));
        run.add(new Call("walk", 100, 1));
        for (int shelf = 0; shelf < SHELVES; shelf++) {
            run.add(new Call("taken", shelf, 0));
            for (int i = 0; i <= LONGEST_ROW; i++) {
                run.add(new Call("element", shelf, i));
            }
        }
        return run;
    }

    private void readLawsAndStories(List<Call> run) {
        for (int law = 0; law < laws && steps > 0; law++) {
            for (int pd : new int[] {0, 100, 3051, 7190}) {
                run.add(new Call("takes", law, 0, pd));
            }
            for (int story = 0; story < stories; story++) {
                run.add(new Call("worn", law, 3, 1 << story));
            }
        }
    }

    private void readSome(List<Call> run) {
        for (int step = 0; step < steps; step += Math.max(1, steps - 1)) {
            run.add(new Call("shape", step, 2));
            run.add(new Call("of", step, 0));
            run.add(new Call("of", step, 3));
        }
    }

    private List<Call> undoing() {
        List<Call> run = new ArrayList<>();
        for (int n = 0; n <= 40; n++) {
            run.add(new Call("undo"));
            readSome(run);
        }
        run.add(new Call("redo"));
        return run;
    }

    private List<Call> doingAgain() {
        List<Call> run = new ArrayList<>();
        for (int n = 0; n <= 40; n++) {
            run.add(new Call("redo"));
            readSome(run);
        }
        return run;
    }

    private List<Call> acting() {
        List<Call> run = new ArrayList<>();
        for (int wear = 0; wear < wears; wear++) {
            run.add(new Call("act", wear, 3, 5));
        }
        return run;
    }

    private List<Call> onTheTape() {
        List<Call> run = new ArrayList<>();
        run.add(new Call("law"));
        run.add(new Call("count", 1));
        for (int law = 0; law < 4; law++) {
            run.add(new Call("takes", law, 0, 7151));
        }
        run.add(new Call("feed", 4, 0x68686868));
        run.add(new Call("step", 10, 0, 1));
        run.add(new Call("story", 0, 0, 0));
        run.add(new Call("day", 7));
        run.add(new Call("body", 7));
        return run;
    }
}
