import java.lang.reflect.Array;
import java.lang.reflect.Field;
import java.lang.reflect.Modifier;
import java.util.ArrayDeque;
import java.util.Collections;
import java.util.Deque;
import java.util.IdentityHashMap;
import java.util.Set;

/** All rows are made in the constructor: an object is small, and no run of calls makes it grow. */
public final class RoomTest {
    private final Set<Object> seen = Collections.newSetFromMap(new IdentityHashMap<>());
    private final Deque<Object> open = new ArrayDeque<>();
    private int places = 0;

    private RoomTest(FinalityTree x) {
        meet(x);
        while (!open.isEmpty()) {
            enter(open.pop());
        }
    }

    public static void main(String[] args) {
        FinalityTree x = new FinalityTree(7, 0, 2);
        RoomTest before = new RoomTest(x);
        fill(x);
        RoomTest after = new RoomTest(x);
        System.out.println(after.seen.size() + " objects, " + after.places + " fields and elements");
        // A thousand such objects would still fit into the room of 600,000 and 7.3 million.
        Due.yes("few objects", after.seen.size() < 600);
        Due.yes("few fields and elements", after.places < 7300);
        Due.same("objects behind 512 calls", after.seen.size(), before.seen.size());
        Due.same("fields and elements behind 512 calls", after.places, before.places);
        Due.end();
    }

    /** 512 calls, which fill the blocks, the votes, the items and what the nodes know and have heard. */
    private static void fill(FinalityTree x) {
        for (int i = 0; i < 80; i++) {
            Due.same("vote", x.vote(i % 7, 0, 2 + i / 7), i);
        }
        for (int b = 1; b < 60; b++) {
            x.include(b % 7);
            x.clear();
            Due.same("propose", x.propose(b - 1, b), b);
            Due.yes("give", x.give(0, b));
        }
        for (int i = 0; i < 4; i++) {
            Due.same("accuse", x.accuse(i, i + 7), i + 1);
        }
        for (int n = 0; n < 3; n++) {
            for (int i = 0; i < 62; i++) {
                Due.yes("hear", x.hear(n, i));
            }
        }
        x.guilty(7, true);
        x.guilty(7, false);
        x.conflict(0, 1);
        x.proof(0);
        x.head(0);
        x.checkpoint(0, 0);
    }

    private void meet(Object object) {
        if (object != null && seen.add(object)) {
            open.push(object);
        }
    }

    private void enter(Object object) {
        Class<?> type = object.getClass();
        if (!type.isArray()) {
            enterFields(object, type);
            return;
        }
        places += Array.getLength(object);
        if (!type.getComponentType().isPrimitive()) {
            for (Object element : (Object[]) object) {
                meet(element);
            }
        }
    }

    private void enterFields(Object object, Class<?> type) {
        for (Field field : type.getDeclaredFields()) {
            if (!Modifier.isStatic(field.getModifiers())) {
                places++;
                if (!field.getType().isPrimitive()) {
                    meet(valueOf(field, object));
                }
            }
        }
    }

    private static Object valueOf(Field field, Object object) {
        try {
            field.setAccessible(true);
            return field.get(object);
        } catch (IllegalAccessException e) {
            throw new IllegalStateException(e);
        }
    }
}
