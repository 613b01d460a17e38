import java.lang.reflect.Constructor;
import java.lang.reflect.Field;
import java.lang.reflect.Method;
import java.lang.reflect.Modifier;
import java.nio.file.Files;
import java.nio.file.Path;
import java.util.Arrays;
import java.util.Map;
import java.util.Set;
import java.util.TreeMap;
import java.util.TreeSet;
import java.util.regex.Matcher;
import java.util.regex.Pattern;
import java.util.stream.Collectors;

/** The class against "The public face" of ../shared/DOC.md: every member that stands there, and no other. */
public final class FaceTest {
    private static final Due due = new Due("face");
    private static final Class<?> CLASS = HollowSteps.class;

    public static void main(String[] args) throws Exception {
        String document = Files.readString(Path.of("../shared/DOC.md"));
        int begin = document.indexOf("public final class HollowSteps {");
        String face = document.substring(begin, document.indexOf("\n}", begin));
        due.is("public and final", CLASS.getModifiers(), Modifier.PUBLIC | Modifier.FINAL);
        due.holds("it is like no other", CLASS.getSuperclass() == Object.class && CLASS.getInterfaces().length == 0);
        constructor();
        calls(face);
        constants(face);
        for (Class<?> inside : CLASS.getDeclaredClasses()) {
            int m = inside.getModifiers();
            due.holds(inside + " is no part of it", !Modifier.isPublic(m) && !Modifier.isProtected(m));
        }
        due.end();
    }

    private static void constructor() {
        Constructor<?>[] made = CLASS.getDeclaredConstructors();
        due.is("one constructor", made.length, 1);
        due.holds("it is public and wants nothing",
                made[0].getModifiers() == Modifier.PUBLIC && made[0].getParameterCount() == 0);
    }

    private static void calls(String face) {
        Set<String> wanted = new TreeSet<>();
        Matcher call = Pattern.compile("public (int|long) (\\w+)\\((.*)\\);").matcher(face);
        while (call.find()) {
            String types = Arrays.stream(call.group(3).split(", ")).map(p -> p.split(" ")[0]).collect(Collectors.joining(","));
            wanted.add(call.group(1) + " " + call.group(2) + "(" + types + ")");
        }
        Set<String> found = new TreeSet<>();
        for (Method m : CLASS.getDeclaredMethods()) {
            if (!Modifier.isPrivate(m.getModifiers())) {
                String types = Arrays.stream(m.getParameterTypes()).map(Class::getName).collect(Collectors.joining(","));
                found.add(m.getReturnType() + " " + m.getName() + "(" + types + ")");
                due.is(m.getName() + " is public and no more", m.getModifiers(), Modifier.PUBLIC);
            }
        }
        due.is("calls in the document", wanted.size(), 39);
        due.holds("the calls are " + wanted + ", there are " + found, found.equals(wanted));
    }

    private static void constants(String face) throws Exception {
        Map<String, Integer> wanted = new TreeMap<>();
        Matcher line = Pattern.compile("public static final int (.*);").matcher(face);
        while (line.find()) {
            for (String constant : line.group(1).split(", ")) {
                wanted.put(constant.split(" = ")[0], Integer.valueOf(constant.split(" = ")[1]));
            }
        }
        Map<String, Integer> found = new TreeMap<>();
        for (Field f : CLASS.getDeclaredFields()) {
            if (!Modifier.isPrivate(f.getModifiers())) {
                due.is(f.getName() + " is a constant", f.getModifiers(), Modifier.PUBLIC | Modifier.STATIC | Modifier.FINAL);
                due.holds(f.getName() + " is an int", f.getType() == int.class);
                found.put(f.getName(), f.getInt(null));
            }
        }
        due.is("constants in the document", wanted.size(), 6);
        due.holds("the constants are " + wanted + ", there are " + found, found.equals(wanted));
    }
}
