import java.lang.reflect.Array;
import java.lang.reflect.Field;
import java.lang.reflect.Modifier;
import java.util.ArrayDeque;
import java.util.Collections;
import java.util.Deque;
import java.util.IdentityHashMap;
import java.util.Set;

/** What an object keeps is little, and no run of calls makes it more (LANGUAGE.md, rule 12). */
public final class RoomTest {
    private static final int MOST_OBJECTS = 100;
    private static final int MOST_ELEMENTS = 2000;

    public static void main(String[] args) throws IllegalAccessException {
        KeyToken token = new KeyToken();
        int[] before = kept(token);
        Checks.same(before[0] + " objects are few", before[0] <= MOST_OBJECTS, true);
        Checks.same(before[1] + " fields and elements are few", before[1] <= MOST_ELEMENTS, true);
        use(token);
        int[] after = kept(token);
        Checks.same("objects after a run", after[0], before[0]);
        Checks.same("fields and elements after a run", after[1], before[1]);
        Checks.end("RoomTest");
    }

    /** Some 500 calls: registrations and a full store, signatures, requests of full length, cuts of the power. */
    private static void use(KeyToken token) {
        for (int user = 0; user < 40; user++) {
            askBy(token, user, true);
            askBy(token, user, false);
        }
        for (int round = 0; round < 20; round++) {
            for (int i = 0; i < 6; i++) {
                token.feed(0x04a1012800000000L, 8);
            }
            Checks.same("malformed", token.send(), 2);
            token.take();
            token.open(0, round);
            token.cut(round % 8);
            token.press();
            if (token.ceremony(0, 0, false, 0) == 99) {
                token.power(true);
            }
        }
    }

    private static void askBy(KeyToken token, int user, boolean registers) {
        token.open(user % 4, user);
        token.press();
        token.ceremony(user % 4, user % 4, registers, 0);
    }

    /** How many objects are reached from one, and how many fields and elements they have. */
    private static int[] kept(Object root) throws IllegalAccessException {
        Set<Object> seen = Collections.newSetFromMap(new IdentityHashMap<>());
        Deque<Object> open = new ArrayDeque<>();
        seen.add(root);
        open.add(root);
        int elements = 0;
        while (!open.isEmpty()) {
            Object next = open.remove();
            elements += next.getClass().isArray() ? follow(next, seen, open) : followFields(next, seen, open);
        }
        return new int[] {seen.size(), elements};
    }

    private static int follow(Object array, Set<Object> seen, Deque<Object> open) {
        int length = Array.getLength(array);
        for (int i = 0; i < length && !array.getClass().getComponentType().isPrimitive(); i++) {
            reach(Array.get(array, i), seen, open);
        }
        return length;
    }

    private static int followFields(Object object, Set<Object> seen, Deque<Object> open) throws IllegalAccessException {
        int count = 0;
        for (Field f : object.getClass().getDeclaredFields()) {
            if (!Modifier.isStatic(f.getModifiers())) {
                count++;
                f.setAccessible(true);
                if (!f.getType().isPrimitive()) {
                    reach(f.get(object), seen, open);
                }
            }
        }
        return count;
    }

    private static void reach(Object object, Set<Object> seen, Deque<Object> open) {
        if (object != null && seen.add(object)) {
            open.add(object);
        }
    }
}
