import java.util.ArrayList;
import java.util.List;

/** An object that is asked call by call. It keeps what it was told, so that a twin can be told the same. */
final class Asked {
    static final int MOST_CALLS = 512;

    private final Edges edges;
    private final HollowSteps x = new HollowSteps();
    private final List<Call> told = new ArrayList<>();

    Asked(Edges edges) {
        this.edges = edges;
    }

    /** A new object for the same sentence. */
    Asked another() {
        return new Asked(edges);
    }

    long call(String name, long... args) {
        return tell(new Call(name, args));
    }

    private long tell(Call call) {
        if (told.size() >= MOST_CALLS) {
            throw new IllegalStateException("more calls than an object is made for");
        }
        told.add(call);
        return call.on(x);
    }

    /** The call answers want. */
    void due(long want, String name, long... args) {
        Call call = new Call(name, args);
        edges.is("after " + told.size() + " calls, " + call, tell(call), want);
    }

    /** The call answers want, and later calls show that it changed nothing. */
    void refused(long want, String name, long... args) {
        due(want, name, args);
        List<Call> without = told.subList(0, told.size() - 1);
        for (List<Call> looks : Looks.at(without)) {
            HollowSteps one = Looks.told(told);
            HollowSteps other = Looks.told(without);
            for (Call look : looks) {
                edges.is("behind a refused " + new Call(name, args) + ", " + look, look.on(one), look.on(other));
            }
        }
    }

    // ---- what most tests begin with

    /** n STEPS, HARD 1, dry, SET in 1500, RISE 7 inches. */
    void steps(int n) {
        for (int i = 0; i < n; i++) {
            taken(call("step", 10, 1500, 70));
        }
    }

    /** MEASURES of a STEP's CELLS from 0 on. */
    void depths(int step, int... measures) {
        for (int c = 0; c < measures.length; c++) {
            taken(call("depth", 10L * step + c, measures[c]));
        }
    }

    void feed(String text) {
        for (int i = 0; i < text.length(); i += 4) {
            int n = Math.min(4, text.length() - i);
            int v = 0;
            for (int b = 0; b < n; b++) {
                v |= text.charAt(i + b) << 8 * b;
            }
            taken(call("feed", n, v));
        }
    }

    /** LAWS that must be ones. */
    void laws(String... texts) {
        for (String text : texts) {
            feed(text);
            taken(call("law"));
        }
    }

    private static void taken(long answer) {
        if (answer < 0) {
            throw new IllegalStateException("a test's own beginning was refused: " + answer);
        }
    }
}
