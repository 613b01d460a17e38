import java.lang.management.ManagementFactory;
import java.lang.reflect.Constructor;
import java.lang.reflect.Field;
import java.lang.reflect.Method;
import java.lang.reflect.Modifier;
import java.nio.file.Files;
import java.nio.file.Path;
import java.util.Arrays;
import java.util.List;
import java.util.Set;
import java.util.TreeSet;
import java.util.stream.Collectors;

/** The face of the document, and those rules of LANGUAGE.md that a look at the class can tell. */
public final class RulesTest {
    private static final Due due = new Due("rules");
    private static final String FACE = "int step(int,int,int)|int of(int,int)|int depth(int,int)|int mend(int,int,int)"
            + "|int depths(int,int,int,int)|int turn(int,int)|int older(int)|int feed(int,int)|int law()"
            + "|int takes(int,int,int)|int story(int,int,int)|int worn(int,int,int)|int led(int,int)"
            + "|int share(int,int,int)|int shape(int,int)|int rail(int,int,int)|int feet(int,int,int,int)"
            + "|int shares(int,int,int,int)|int other(int,int)|int renewed(int,int,int)|int fits(int,int,int,int)"
            + "|int best(int,int,int)|int next(int,int,int)|int slipped(int,int,int)|int day(int)|int gate(int)"
            + "|int walk(int,int)|int undo()|int redo()|int body(int)|int act(int,int,int)|int trace(int)"
            + "|int keep(int,int)|int row(int,int,int)|int put(int,int,long)|long element(int,int)"
            + "|int shift(int,int,int,int,int)|int taken(int,int)|int count(int)";

    public static void main(String[] args) throws Exception {
        face();
        classes();
        source();
        room();
        due.end();
    }

    private static void face() throws Exception {
        Class<?> face = HollowSteps.class;
        due.is("public and final", face.getModifiers(), Modifier.PUBLIC | Modifier.FINAL);
        due.is("one constructor", face.getDeclaredConstructors().length, 1);
        Constructor<?> made = face.getDeclaredConstructors()[0];
        due.holds("it is public and wants nothing", made.getModifiers() == Modifier.PUBLIC && made.getParameterCount() == 0);
        Set<String> calls = new TreeSet<>();
        for (Method m : face.getDeclaredMethods()) {
            if (!Modifier.isPrivate(m.getModifiers())) {
                String types = Arrays.stream(m.getParameterTypes()).map(Class::getName).collect(Collectors.joining(","));
                calls.add(m.getReturnType() + " " + m.getName() + "(" + types + ")");
            }
        }
        due.holds("the calls of the face: " + calls, calls.equals(new TreeSet<>(List.of(FACE.split("\\|")))));
        List<String> names = List.of("BAD", "NOT", "FULL", "BIG", "STATE", "VOID");
        int[] values = {-1, -2, -3, -4, -5, -2000000000};
        int found = 0;
        for (Field f : face.getDeclaredFields()) {
            if (!Modifier.isPrivate(f.getModifiers())) {
                due.is(f.getName() + " is a constant", f.getModifiers(), Modifier.PUBLIC | Modifier.STATIC | Modifier.FINAL);
                due.is(f.getName(), f.getInt(null), values[names.indexOf(f.getName())]);
                found++;
            }
        }
        due.is("constants", found, 6);
    }

    private static void classes() {
        Set<String> open = new TreeSet<>();
        for (Method m : HollowSteps.class.getDeclaredMethods()) {
            if (Modifier.isPublic(m.getModifiers())) {
                open.add(m.getName());
            }
        }
        Class<?>[] inside = HollowSteps.class.getDeclaredClasses();
        due.holds("some twelve classes at most", inside.length < 12);
        for (Class<?> c : inside) {
            int m = c.getModifiers();
            due.holds(c + " is static", Modifier.isStatic(m) && !Modifier.isPublic(m) && !Modifier.isProtected(m));
            due.is(c + " has none inside", c.getDeclaredClasses().length, 0);
            for (Method method : c.getDeclaredMethods()) {
                due.holds(c + " has its own names: " + method.getName(), !open.contains(method.getName()));
                due.holds(method + " wants seven at most", method.getParameterCount() <= 7);
            }
            fields(c);
        }
        for (Method method : HollowSteps.class.getDeclaredMethods()) {
            boolean isPrivate = Modifier.isPrivate(method.getModifiers());
            due.holds("private " + method.getName(), !isPrivate || !open.contains(method.getName()));
            due.holds(method + " wants seven at most", method.getParameterCount() <= 7);
        }
        fields(HollowSteps.class);
    }

    private static void fields(Class<?> c) {
        int own = 0;
        for (Field f : c.getDeclaredFields()) {
            if (Modifier.isStatic(f.getModifiers())) {
                due.holds(f + " is final", Modifier.isFinal(f.getModifiers()));
            } else {
                own++;
            }
        }
        due.holds(c + " has some twenty fields at most", own <= 20);
    }

    private static void source() throws Exception {
        String text = Files.readString(Path.of("src/main/java/HollowSteps.java"));
        due.holds("signs 0 to 127 alone", text.chars().allMatch(c -> c < 128));
        String code = text.replaceAll("(?s)/\\*.*?\\*/", "").replaceAll("//[^\n]*", "");
        for (String word : List.of("throw", "throws", "try", "catch", "synchronized", "assert", "import", "package",
                "Object", "equals", "hashCode", "toString", "float", "double", "interface", "Exact", "volatile")) {
            due.holds("no " + word, !code.matches("(?s).*\\b\\w*" + word + "\\b.*"));
        }
        due.holds("no lambdas", !code.contains("->") && !code.contains("::"));
        due.holds("no texts joined by +", !code.contains("\""));
        int start = -1;
        String[] lines = code.split("\n");
        for (int i = 0; i < lines.length; i++) {
            if (lines[i].matches("( {4}| {8})\\S.*\\) \\{")) {
                start = i;
            }
            if (start >= 0 && lines[i].matches("( {4}| {8})\\}")) {
                due.holds("a short method: " + lines[start].trim(), i - start <= 60);
                start = -1;
            }
        }
    }

    /** Calls make next to nothing: what 512 of the dearest ones make stays below a few hundred elements. */
    private static void room() {
        HollowSteps x = new HollowSteps();
        for (int s = 0; s < 40; s++) {
            x.step(50, s, 50 + s % 7);
        }
        Texts.law(x, "d?9-x+k;h*(w|s>3)+7-x");
        for (int s = 0; s < 10; s++) {
            x.story(15001600 + 10 * s, 7005, 100 * (s % 8) + 11);
        }
        for (int sc = 0; sc < 400; sc++) {
            x.depth(sc, sc * 13 % 700);
        }
        x.body(7);
        x.row(0, 2, 60);
        calls(x, 3);
        long ahead = madeBytes();
        calls(x, 64);
        long behind = madeBytes();
        due.holds("512 calls made " + (behind - ahead) + " bytes", behind - ahead < 8192);
    }

    private static long madeBytes() {
        com.sun.management.ThreadMXBean threads = (com.sun.management.ThreadMXBean) ManagementFactory.getThreadMXBean();
        return threads.getThreadAllocatedBytes(Thread.currentThread().getId());
    }

    private static void calls(HollowSteps x, int times) {
        for (int n = 0; n < times; n++) {
            x.other(0, 30);
            x.best(0, 255, 1);
            x.fits(0, 255, 900, 0);
            x.next(0, 3, 5);
            x.act(0, 3, n);
            x.feed(4, 0x32312b31);
            x.law();
            x.row(0, 3, 60);
        }
    }
}
