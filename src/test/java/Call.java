import java.lang.reflect.InvocationTargetException;
import java.lang.reflect.Method;
import java.util.Arrays;
import java.util.HashMap;
import java.util.Map;
import java.util.StringJoiner;

/** A call of the face by its name, so that it can be told again to another object, and shown. */
record Call(String name, long... args) {
    private static final Map<String, Method> FACE = new HashMap<>();

    static {
        for (Method m : HollowSteps.class.getMethods()) {
            if (m.getDeclaringClass() == HollowSteps.class) {
                FACE.put(m.getName(), m);
            }
        }
    }

    long on(HollowSteps x) {
        Method method = FACE.get(name);
        if (method == null || method.getParameterCount() != args.length) {
            throw new IllegalStateException("the face has no " + this);
        }
        Class<?>[] types = method.getParameterTypes();
        Object[] given = new Object[args.length];
        for (int i = 0; i < args.length; i++) {
            given[i] = types[i] == long.class ? (Object) args[i] : (Object) Math.toIntExact(args[i]);
        }
        try {
            return ((Number) method.invoke(x, given)).longValue();
        } catch (InvocationTargetException thrown) {
            throw new IllegalStateException(this + " threw " + thrown.getCause(), thrown.getCause());
        } catch (IllegalAccessException closed) {
            throw new IllegalStateException(closed);
        }
    }

    @Override
    public String toString() {
        StringJoiner shown = new StringJoiner(", ", name + "(", ")");
        Arrays.stream(args).forEach(a -> shown.add(Long.toString(a)));
        return shown.toString();
    }
}
