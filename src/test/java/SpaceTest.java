import java.lang.reflect.Array;
import java.lang.reflect.Field;
import java.lang.reflect.Modifier;
import java.util.ArrayDeque;
import java.util.Collections;
import java.util.Deque;
import java.util.IdentityHashMap;
import java.util.Set;

/** All calls of a run live in one room: one object makes little, and makes it once. */
public final class SpaceTest {
    private static final int MOST_OBJECTS = 300;
    private static final int MOST_ELEMENTS = 57000;

    private final Set<Object> seen = Collections.newSetFromMap(new IdentityHashMap<>());
    private final Deque<Object> waiting = new ArrayDeque<>();
    private int elements;

    public static void main(String[] args) throws IllegalAccessException {
        Check x = new Check("40 files, 60 names, used again");
        x.room(200, 199);
        fillAll(x);
        SpaceTest once = new SpaceTest(x.tree);
        x.due("at most 300 objects, not " + once.seen.size(), once.seen.size() <= MOST_OBJECTS ? 1 : 0, 1);
        x.due("at most 57,000 elements, not " + once.elements, once.elements <= MOST_ELEMENTS ? 1 : 0, 1);
        emptyAll(x);
        fillAll(x);
        x.follow("0/1/2", Check.NONE);
        Set<Object> again = new SpaceTest(x.tree).seen;
        x.due("the same objects are used again", again.equals(once.seen) ? 1 : 0, 1);
        Check.end();
    }

    /** The most that there can be: 39 links, and 60 names. */
    private static void fillAll(Check x) {
        for (int i = 0; i < 39; i++) {
            x.type('0' + i << 16 | 'x', 3, 3);
            x.due("symlink", x.tree.symlink(), i + 2);
        }
        for (int i = 39; i < 60; i++) {
            x.type('0' << 16 | '0' + i, 3, 3);
            x.due("link", x.tree.link(), 2);
        }
        x.count(0, 40);
        x.count(1, 60);
    }

    private static void emptyAll(Check x) {
        for (int i = 0; i < 60; i++) {
            x.type('0' + i, 1, 1);
            x.due("remove", x.tree.remove(), i < 39 ? i + 2 : 2);
        }
        x.count(0, 1);
        x.count(1, 0);
    }

    private SpaceTest(NameTree tree) throws IllegalAccessException {
        reach(tree);
        while (!waiting.isEmpty()) {
            Object next = waiting.remove();
            if (next.getClass().isArray()) {
                goIntoArray(next);
            } else {
                goIntoFields(next);
            }
        }
    }

    private void reach(Object object) {
        if (object != null && seen.add(object)) {
            waiting.add(object);
        }
    }

    private void goIntoArray(Object array) {
        int length = Array.getLength(array);
        elements += length;
        boolean ofObjects = !array.getClass().getComponentType().isPrimitive();
        for (int i = 0; ofObjects && i < length; i++) {
            reach(Array.get(array, i));
        }
    }

    private void goIntoFields(Object object) throws IllegalAccessException {
        for (Field field : object.getClass().getDeclaredFields()) {
            if (Modifier.isStatic(field.getModifiers())) {
                continue;
            }
            elements++;
            if (!field.getType().isPrimitive()) {
                field.setAccessible(true);
                reach(field.get(object));
            }
        }
    }
}
