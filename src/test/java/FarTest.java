import java.lang.reflect.Method;
import java.lang.reflect.Modifier;
import java.util.ArrayList;
import java.util.List;

/**
 * Rules 7 and 13 of ../shared/LANGUAGE.md: no call throws, whatever it is given, on an object that holds
 * nothing and on one that is full; and the same calls give the same answers on another object.
 */
public final class FarTest {
    private static final long[] NUMBERS = {Integer.MIN_VALUE, -1, 0, 1, 39, 90, Integer.MAX_VALUE};
    private static final Due due = new Due("far");

    private final List<Call> beginning;
    private HollowSteps one;
    private HollowSteps other;
    private int calls = Asked.MOST_CALLS;

    private FarTest(List<Call> beginning) {
        this.beginning = beginning;
    }

    public static void main(String[] args) {
        for (List<Call> beginning : List.of(List.<Call>of(), full())) {
            FarTest test = new FarTest(beginning);
            for (Method m : HollowSteps.class.getDeclaredMethods()) {
                if (Modifier.isPublic(m.getModifiers())) {
                    test.every(m.getName(), new long[m.getParameterCount()], 0);
                }
            }
        }
        due.end();
    }

    /** As many of each as there can be; the SHELVES hold a WEAR, ROWS of all sorts but longs, or nothing. */
    private static List<Call> full() {
        List<Call> told = new ArrayList<>();
        for (int n = 0; n < 50; n++) {
            told.add(new Call("step", 10 + n % 9 * 10 + n % 2, 1500 + n, 1 + n * 7 % 99));
            told.add(new Call("story", 15001600 + n, 999999, n % 8 * 100 + n % 10 * 10 + n % 2));
            told.add(new Call("day", n * 200));
            told.add(new Call("body", n % 8));
        }
        for (String text : List.of("9999/x%k", "d?-h;((s*9999*9999))", "!x*9999", "b+k-w")) {
            for (char sign : text.toCharArray()) {
                told.add(new Call("feed", 1, sign));
            }
            told.add(new Call("law"));
        }
        for (int n = 0; n < 9; n++) {
            told.add(new Call("depth", n * 49 % 320, 99999 - n));
        }
        told.add(new Call("keep", 0, 7));
        told.add(new Call("row", 1, 2, 60));
        told.add(new Call("row", 2, 4, 0));
        told.add(new Call("row", 3, 0, 1));
        told.add(new Call("row", 4, 1, 39));
        return told;
    }

    /** Every choice of NUMBERS for the arguments from a place on. */
    private void every(String name, long[] args, int place) {
        if (place == args.length) {
            ask(new Call(name, args.clone()));
            return;
        }
        for (long number : NUMBERS) {
            args[place] = number;
            every(name, args, place + 1);
        }
    }

    private void ask(Call call) {
        if (calls >= Asked.MOST_CALLS) {
            one = Looks.told(beginning);
            other = Looks.told(beginning);
            calls = beginning.size();
        }
        calls++;
        try {
            due.is(call + " on another object", call.on(other), call.on(one));
        } catch (IllegalStateException thrown) {
            due.holds(thrown.getMessage(), false);
        }
    }
}
