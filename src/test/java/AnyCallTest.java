import java.lang.reflect.InvocationTargetException;
import java.lang.reflect.Method;
import java.lang.reflect.Modifier;
import java.util.ArrayList;
import java.util.Arrays;
import java.util.Comparator;
import java.util.List;
import java.util.Random;

/**
 * Calls with any arguments in any state, many more than the 512 that are promised: each ends, throws nothing but what
 * its face declares, and the same calls get the same answers from another object (LANGUAGE.md, rules 6, 7 and 13).
 */
public final class AnyCallTest {
    private static final int OBJECTS = 120;
    private static final int CALLS = 4000;
    private static final int[] EDGES = {Integer.MIN_VALUE, Integer.MIN_VALUE + 1, -65536, -256, -40, -10, -1, 0, 1, 2, 3, 4,
        5, 6, 7, 8, 9, 10, 11, 15, 16, 20, 25, 26, 30, 35, 36, 39, 40, 41, 42, 47, 48, 49, 80, 98, 99, 100, 255, 256, 65536,
        Integer.MAX_VALUE - 1, Integer.MAX_VALUE};
    private static final String[] REQUESTS = {Wire.make(4, "a", 1), Wire.make(5, "b", 2), Wire.makeExcluding(8, "a", 3, 1, 2),
        Wire.makeWith(4, "a", 1, 1), Wire.makeWith(4, "c", 4, 2), Wire.sign("a", 4), Wire.sign("a", 8), Wire.signAllowed("a", 4, 1, 6),
        Wire.signWith("a", 4, 1), Wire.NEXT, Wire.NEXT, Wire.INFO, Wire.TRIES, Wire.setPin("1234"), Wire.ticket("1234"),
        Wire.ticket("0000"), Wire.changePin("1234", "5678"), Wire.changePin("5678", "1234"), Wire.ticket("5678"), Wire.RESET,
        "04 9a 7f ff ff ff", "04 ba 7f ff ff ff", "04 a1 01 5a 7f ff ff ff", "04 a1 01 7a 7f ff ff ff", "04 a1 01 9a 7f ff ff ff",
        "04" + "81".repeat(40), "04" + "a1 00".repeat(20), "04 a1 01" + "81".repeat(40), "04 a1 1a 80 00 00 00 00"};

    private final Random random;
    private final KeyToken first = new KeyToken();
    private final KeyToken second = new KeyToken();

    private AnyCallTest(long seed) {
        random = new Random(seed);
    }

    public static void main(String[] args) {
        List<Method> face = new ArrayList<>();
        for (Method m : KeyToken.class.getDeclaredMethods()) {
            if (Modifier.isPublic(m.getModifiers())) {
                face.add(m);
            }
        }
        // The order in which reflection tells them is not promised, and the runs are to be the same each time.
        face.sort(Comparator.comparing(Method::getName));
        Checks.same("calls of the face", face.size(), 14);
        for (int seed = 0; seed < OBJECTS; seed++) {
            Checks.same("calls of seed " + seed, new AnyCallTest(seed).run(face), "as declared");
        }
        Checks.end("AnyCallTest");
    }

    private String run(List<Method> face) {
        for (int call = 0; call < CALLS; call++) {
            String fault = pick(3) == 0 ? ask(REQUESTS[pick(REQUESTS.length)]) : callAny(face.get(pick(face.size())));
            if (fault != null) {
                return "call " + call + ": " + fault;
            }
        }
        return "as declared";
    }

    private int pick(int below) {
        return random.nextInt(below);
    }

    private int anyInt() {
        return pick(20) == 0 ? random.nextInt() : pick(2) == 0 ? pick(5) : EDGES[pick(EDGES.length)];
    }

    private String callAny(Method m) {
        Object[] values = new Object[m.getParameterCount()];
        for (int i = 0; i < values.length; i++) {
            Class<?> type = m.getParameterTypes()[i];
            values[i] = type == boolean.class ? (Object) (pick(4) > 0) : type == long.class ? (Object) random.nextLong() : anyInt();
        }
        return both(m, values);
    }

    private String both(Method m, Object... values) {
        Object one = outcome(first, m, values);
        Object other = outcome(second, m, values);
        String call = m.getName() + Arrays.toString(values);
        if (one instanceof Class<?> && !Arrays.asList(m.getExceptionTypes()).contains(one)) {
            return call + " throws " + one;
        }
        return one == other || one != null && one.equals(other) ? null : call + " answers " + one + " and " + other;
    }

    private static Object outcome(KeyToken token, Method m, Object[] values) {
        try {
            return m.invoke(token, values);
        } catch (InvocationTargetException e) {
            return e.getCause().getClass();
        } catch (IllegalAccessException e) {
            throw new AssertionError(e);
        }
    }

    private String ask(String hex) {
        String one = outcomeOf(first, hex);
        String other = outcomeOf(second, hex);
        return one.equals(other) ? null : "request " + hex + " answers " + one + " and " + other;
    }

    /** A request that does something, behind whatever stands in the input. */
    private static String outcomeOf(KeyToken token, String hex) {
        try {
            token.power(true);
            token.press();
            for (byte b : Wire.bytes(hex)) {
                token.feed(b, 1);
            }
            return Integer.toString(token.send());
        } catch (IllegalArgumentException | IllegalStateException e) {
            return e.getClass().getName();
        }
    }
}
