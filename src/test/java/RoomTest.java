import java.lang.management.ManagementFactory;
import java.lang.reflect.Array;
import java.lang.reflect.Field;
import java.lang.reflect.Modifier;
import java.util.ArrayList;
import java.util.IdentityHashMap;
import java.util.List;
import java.util.Map;

/**
 * Rule 12 of ../shared/LANGUAGE.md: what an object holds, in objects and in fields and elements, when it
 * is new and when it is full, and that calls which keep nothing make next to nothing.
 */
public final class RoomTest {
    // All calls of a run live in a room of some 600000 objects and 7.3 million fields and elements:
    // more than a thousand full HollowSteps are to find place there.
    private static final int MOST_OBJECTS = 300, MOST_ELEMENTS = 5000, MOST_BYTES = 4096;
    private static final Due due = new Due("room");

    public static void main(String[] args) throws Exception {
        held("a new object", new HollowSteps());
        HollowSteps x = full();
        held("a full object", x);
        calls(full(), 20);
        long ahead = madeBytes();
        calls(x, 20);
        long behind = madeBytes();
        due.holds("180 calls made " + (behind - ahead) + " bytes", behind - ahead < MOST_BYTES);
        held("the object behind them", x);
        due.end();
    }

    /** All STEPS, LAWS and STORIES there can be. */
    private static HollowSteps full() {
        HollowSteps x = new HollowSteps();
        for (int s = 0; s < 40; s++) {
            x.step(50, s, 50 + s % 7);
        }
        for (int law = 0; law < 4; law++) {
            for (int n = 0; n < 23; n++) {
                x.feed(4, '1' | '+' << 8 | '-' << 16 | '0' << 24);
                x.feed(1, '-');
            }
            x.feed(1, 'x');
            due.is("a long LAW", x.law(), law);
        }
        for (int s = 0; s < 10; s++) {
            x.story(15001600 + 10 * s, 7005, 100 * (s % 8) + 11);
        }
        for (int step = 0; step < 40; step++) {
            x.depth(10 * step + step % 8, step * 13 + 1);
        }
        x.body(7);
        return x;
    }

    private static void calls(HollowSteps x, int times) {
        for (int n = 0; n < times; n++) {
            x.other(0, 30);
            x.best(0, 255, 1);
            x.fits(0, 255, 900, 0);
            x.next(0, 3, 5);
            x.act(0, 3, n);
            x.feed(4, 0x32312b31);
            x.law();
            x.row(0, 3, 60);
            x.turn(n, 2000);
        }
    }

    private static long madeBytes() {
        com.sun.management.ThreadMXBean threads = (com.sun.management.ThreadMXBean) ManagementFactory.getThreadMXBean();
        return threads.getThreadAllocatedBytes(Thread.currentThread().getId());
    }

    // ---- counting

    private static void held(String what, HollowSteps x) throws Exception {
        Map<Object, Boolean> seen = new IdentityHashMap<>();
        List<Object> open = new ArrayList<>(List.of(x));
        long elements = 0;
        while (!open.isEmpty()) {
            Object next = open.remove(open.size() - 1);
            if (seen.put(next, true) == null) {
                elements += next.getClass().isArray() ? elementsOf(next, open) : fieldsOf(next, open);
            }
        }
        due.holds(what + " has " + seen.size() + " objects", seen.size() <= MOST_OBJECTS);
        due.holds(what + " has " + elements + " fields and elements", elements <= MOST_ELEMENTS);
    }

    private static int elementsOf(Object row, List<Object> open) {
        int length = Array.getLength(row);
        for (int i = 0; i < length && !row.getClass().getComponentType().isPrimitive(); i++) {
            add(Array.get(row, i), open);
        }
        return length;
    }

    private static int fieldsOf(Object of, List<Object> open) throws Exception {
        int fields = 0;
        for (Field f : of.getClass().getDeclaredFields()) {
            if (!Modifier.isStatic(f.getModifiers())) {
                fields++;
                f.setAccessible(true);
                if (!f.getType().isPrimitive()) {
                    add(f.get(of), open);
                }
            }
        }
        return fields;
    }

    private static void add(Object part, List<Object> open) {
        if (part != null) {
            open.add(part);
        }
    }
}
