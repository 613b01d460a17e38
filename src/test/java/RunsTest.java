import java.lang.reflect.InvocationTargetException;
import java.lang.reflect.Method;
import java.util.ArrayList;
import java.util.Arrays;
import java.util.List;
import java.util.Random;

/**
 * Promises 1 to 40 together: the same runs of calls on HollowSteps and on Plain, with numbers that
 * are mostly as said, now and then at an edge, beyond it, or far off. The seeds are fixed.
 */
public final class RunsTest {
    private static final int RUNS = 400, CALLS = 512;
    private static final int[] FAR = {Integer.MIN_VALUE, Integer.MAX_VALUE, -1, -7, 1 << 30, 2000000001, 100000};
    private static final List<List<String>> FOCI = List.of(
            List.of("depth", "depth", "mend", "undo", "undo", "redo", "of"),
            List.of("depth", "depth", "turn", "older", "shape", "rail", "renewed"),
            List.of("depth", "depth", "shares", "other", "feet", "slipped", "mend"),
            List.of("depth", "story", "worn", "led", "share", "next"),
            List.of("depth", "depth", "story", "fits", "best", "next"),
            List.of("row", "put", "put", "put", "shift", "shift", "element", "element", "depths", "keep", "taken"),
            List.of("body", "act", "trace", "trace", "count", "keep", "taken"),
            List.of("day", "gate", "gate", "walk", "takes", "takes"));
    private static final Due due = new Due("runs");

    private final Random chance;
    private final HollowSteps one = new HollowSteps();
    private final Plain other = new Plain();
    private final List<String> told = new ArrayList<>();
    private final int slackness; // one number in so many is off
    private final List<String> focus; // half of the calls are of these
    private int calls;

    private RunsTest(long seed) {
        chance = new Random(seed);
        slackness = new int[] {4, 12, 60, 1000}[(int) (seed % 4)];
        focus = FOCI.get((int) (seed / 4 % FOCI.size()));
    }

    public static void main(String[] args) throws Exception {
        for (long seed = 1; seed <= RUNS; seed++) {
            new RunsTest(seed).run();
        }
        faultsOfTexts();
        due.end();
    }

    // ---- one run

    private void run() throws Exception {
        for (int i = chance.nextInt(12); i > 0; i--) {
            call("step");
        }
        for (int i = chance.nextInt(11); i > 0; i--) {
            call("story");
        }
        if (chance.nextInt(4) > 0) {
            lawBy(Texts.some(chance));
        }
        List<String> names = namesOfCalls();
        while (calls < CALLS) {
            boolean focused = chance.nextBoolean();
            String name = focused ? focus.get(chance.nextInt(focus.size())) : names.get(chance.nextInt(names.size()));
            if (name.equals("law") || name.equals("feed") && chance.nextInt(3) > 0) {
                lawBy(chance.nextBoolean() ? Texts.some(chance) : Texts.spoiled(chance));
            } else {
                call(name);
            }
        }
    }

    private static List<String> namesOfCalls() {
        List<String> names = new ArrayList<>();
        for (Method m : HollowSteps.class.getDeclaredMethods()) {
            boolean isPublic = java.lang.reflect.Modifier.isPublic(m.getModifiers());
            for (int weight = isPublic ? weightOf(m.getName()) : 0; weight > 0; weight--) {
                names.add(m.getName());
            }
        }
        names.sort(null);
        return names;
    }

    private static int weightOf(String name) {
        if (List.of("depth", "mend", "undo", "redo", "act", "trace", "put", "row").contains(name)) {
            return 6;
        }
        return List.of("shares", "other", "fits", "best").contains(name) ? 1 : 3;
    }

    private void lawBy(String text) throws Exception {
        for (int i = 0; i < text.length() && calls < CALLS; i += 4) {
            int v = 0;
            int n = Math.min(4, text.length() - i);
            for (int b = 0; b < n; b++) {
                v |= text.charAt(i + b) << 8 * b;
            }
            call("feed", n, v);
        }
        call("law");
    }

    private void call(String name, Object... given) throws Exception {
        if (calls >= CALLS) {
            return;
        }
        calls++;
        Method method = Arrays.stream(HollowSteps.class.getDeclaredMethods())
                .filter(m -> m.getName().equals(name)).findFirst().get();
        Object[] args = given.length > 0 ? given : argsOf(name);
        Method plain = Plain.class.getDeclaredMethod(name, method.getParameterTypes());
        String shown = name + Arrays.toString(args);
        told.add(shown);
        due.is("after " + told.size() + " calls, " + shown, answer(method, one, args), answer(plain, other, args));
    }

    private static long answer(Method method, Object of, Object[] args) throws Exception {
        try {
            return ((Number) method.invoke(of, args)).longValue();
        } catch (InvocationTargetException thrown) {
            System.out.println(of.getClass() + " threw " + thrown.getCause());
            return Long.MIN_VALUE + 1;
        }
    }

    // ---- numbers

    private int upTo(int least, int most) {
        if (chance.nextInt(slackness) == 0) {
            int[] edges = {least - 1, most + 1, least, most};
            return chance.nextInt(3) > 0 ? edges[chance.nextInt(4)] : FAR[chance.nextInt(FAR.length)];
        }
        return most < least ? least : least + chance.nextInt(most - least + 1);
    }

    private int steps() {
        return upTo(0, one.count(0) - 1);
    }

    private int cells() {
        return 10 * Math.min(steps(), 1000) + upTo(0, 7);
    }

    private int laws() {
        return upTo(0, one.count(1) - 1);
    }

    private int sets() {
        return chance.nextInt(3) == 0 ? upTo(0, (1 << one.count(2)) - 1) : upTo(0, 3) & (1 << one.count(2)) - 1;
    }

    private int depths() {
        return chance.nextInt(3) == 0 ? upTo(0, 99999) : chance.nextInt(3) == 0 ? 0 : upTo(0, 9) * 100;
    }

    private Object[] argsOf(String name) {
        switch (name) {
            case "step": return new Object[] {10 * upTo(1, 9) + upTo(0, 1), upTo(1400, 2000), upTo(60, 80)};
            case "of": return new Object[] {steps(), chance.nextBoolean() ? upTo(0, 5) : upTo(10, 17)};
            case "depth": return new Object[] {cells(), depths()};
            case "mend": {
                int what = upTo(0, 1);
                return new Object[] {steps(), what, what == 0 ? upTo(1, 9) : upTo(1, 99)};
            }
            case "depths": return new Object[] {steps(), upTo(0, 5), upTo(0, 9), upTo(1, 8)};
            case "turn": return new Object[] {steps(), upTo(1400, 2000)};
            case "older": return new Object[] {steps()};
            case "feed": return new Object[] {upTo(1, 4), chance.nextInt()};
            case "takes": {
                int pd = 1000 * upTo(0, 7) + 100 * upTo(0, 1) + 10 * upTo(0, 9) + upTo(0, 1);
                return new Object[] {laws(), cells(), pd};
            }
            case "story": {
                int first = upTo(1400, 1990);
                int ft = 10000 * first + upTo(Math.max(0, Math.min(first, 2000)), 2000);
                int ud = 1000 * upTo(0, chance.nextInt(3) == 0 ? 999 : 9) + upTo(0, 9);
                return new Object[] {ft, ud, 100 * upTo(0, 7) + 10 * upTo(0, 9) + upTo(0, 1)};
            }
            case "worn": return new Object[] {laws(), cells(), sets()};
            case "led": return new Object[] {laws(), cells()};
            case "share": return new Object[] {laws(), steps(), upTo(0, one.count(2) - 1)};
            case "shape": return new Object[] {steps(), upTo(0, 2)};
            case "rail": return new Object[] {steps(), chance.nextBoolean() ? upTo(0, 1000) : depths(), upTo(0, 1)};
            default: return moreArgsOf(name);
        }
    }

    private Object[] moreArgsOf(String name) {
        switch (name) {
            case "feet": {
                int shoe = upTo(0, 9);
                return new Object[] {laws(), cells(), 100 * upTo(0, 7) + 10 * shoe + upTo(Math.max(0, Math.min(shoe, 9)), 9), upTo(0, 1)};
            }
            case "shares": return new Object[] {laws(), steps(), 10 * upTo(0, 7) + upTo(0, 9), upTo(0, 2)};
            case "other": return new Object[] {laws(), 10 * upTo(0, 7) + upTo(0, 9)};
            case "renewed": return new Object[] {100 * steps() + steps(), upTo(1500, 2000), upTo(0, 1)};
            case "fits": return new Object[] {laws(), sets(), chance.nextBoolean() ? 99999 : upTo(0, 9999), upTo(0, 1)};
            case "best": return new Object[] {laws(), sets(), upTo(0, 1)};
            case "next": return new Object[] {laws(), sets(), sets()};
            case "slipped": return new Object[] {laws(), upTo(0, 7), upTo(0, 1)};
            case "day": return new Object[] {upTo(0, 9999)};
            case "gate": return new Object[] {upTo(0, 1)};
            case "walk": return new Object[] {upTo(1, 100), chance.nextInt()};
            case "body": return new Object[] {upTo(0, 7)};
            case "act": return new Object[] {upTo(0, one.count(6) - 1), upTo(0, 3), chance.nextInt()};
            case "trace": return new Object[] {upTo(0, one.count(7) - 1)};
            case "keep": return new Object[] {upTo(0, 5), upTo(-1, one.count(6) - 1)};
            case "row": return new Object[] {upTo(0, 5), chance.nextInt(3) == 0 ? 2 : upTo(0, 4), upTo(0, 60)};
            case "put": {
                long v = chance.nextInt(3) == 0 ? chance.nextLong() : chance.nextInt(300);
                return new Object[] {upTo(0, 5), upTo(0, 12), v};
            }
            case "element": return new Object[] {upTo(0, 5), upTo(0, 12)};
            case "shift": return new Object[] {upTo(0, 5), upTo(0, 9), upTo(0, 5), upTo(0, 9), upTo(0, 9)};
            case "taken": return new Object[] {upTo(0, 5), upTo(0, 7)};
            case "count": return new Object[] {upTo(0, 7)};
            default: return new Object[0];
        }
    }

    // ---- texts alone

    /** Many more texts than the runs have, each told to a new object. */
    private static void faultsOfTexts() {
        Random chance = new Random(77);
        for (int n = 0; n < 20000; n++) {
            String text = n % 4 == 0 ? Texts.some(chance) : Texts.spoiled(chance);
            HollowSteps x = new HollowSteps();
            x.step(90, 0, 50);
            x.step(31, 0, 93);
            Texts.tell(x, text);
            int fault = Plain.fault(text);
            due.is("law of " + text, x.law(), fault < 0 ? 0 : -100 - fault);
            for (int pd = 0; fault < 0 && pd < 8; pd++) {
                int k = pd % 2 * 43;
                int v = Plain.value(text, 9 - pd % 2 * 6, pd % 2, k, pd, pd % 3 % 2, 9 - pd, 0);
                int asked = 100 * (pd % 3 % 2) + 10 * (9 - pd);
                due.is(text + " at " + pd, x.takes(0, 10 * (pd % 2) + pd, asked), Math.max(0, Math.min(9999, v)));
            }
        }
    }
}
