import java.lang.reflect.Array;
import java.lang.reflect.Field;
import java.lang.reflect.Modifier;
import java.util.ArrayDeque;
import java.util.Collections;
import java.util.Deque;
import java.util.IdentityHashMap;
import java.util.Set;

/** How much room one object takes: rows are made by constructors and used again, no call makes more of them. */
public final class RoomTest {
    private static final int MOST_OBJECTS = 300;
    private static final int MOST_ELEMENTS = 10000;
    private static final String TEXT = "shelf 10;thing a 0 0 4 2 5;thing b 6 0 4 2 5;thing c 2 2 6 1 3;thing r 8 2 2 2 1 round;"
            + "thing d 8 4 2 1 1;child weight+load*(left>2);";

    private static int objects;
    private static int elements;

    public static void main(String[] args) throws IllegalAccessException {
        TinTower x = new TinTower();
        measure(x);
        int objectsAtFirst = objects;
        int elementsAtFirst = elements;
        Check.due("objects of a new one", Math.max(objects, MOST_OBJECTS), MOST_OBJECTS);
        Check.due("fields and elements of a new one", Math.max(elements, MOST_ELEMENTS), MOST_ELEMENTS);
        for (int i = 0; i < 12; i++) {
            Check.read(x, i % 4 == 3 ? "thing a 0 0 1" : TEXT);
            use(x);
        }
        measure(x);
        Check.due("objects behind some 500 calls", objects, objectsAtFirst);
        Check.due("fields and elements behind some 500 calls", elements, elementsAtFirst);
        Check.end("RoomTest");
    }

    private static void use(TinTower x) {
        x.keep();
        for (int t = 0; t < 5; t++) {
            x.down(1 + t % 2, 0);
            x.hands(t, t % 2 == 0, 0);
            x.pulled(t);
            x.most(t);
            x.wish(t);
        }
        x.over(0, 1, 2);
        x.highest(31, 0);
        x.hangs(0);
        x.move(4, 1);
        x.pull(0);
        x.take(3);
        x.spree(2);
        x.undo();
        x.back();
    }

    private static void measure(Object root) throws IllegalAccessException {
        Set<Object> seen = Collections.newSetFromMap(new IdentityHashMap<>());
        Deque<Object> next = new ArrayDeque<>();
        next.add(root);
        seen.add(root);
        objects = 0;
        elements = 0;
        while (!next.isEmpty()) {
            Object one = next.remove();
            objects++;
            if (one.getClass().isArray()) {
                elements += Array.getLength(one);
                for (int i = 0; i < Array.getLength(one) && one instanceof Object[]; i++) {
                    meet(Array.get(one, i), seen, next);
                }
            } else {
                for (Field field : one.getClass().getDeclaredFields()) {
                    if (!Modifier.isStatic(field.getModifiers())) {
                        elements++;
                        field.setAccessible(true);
                        meet(field.getType().isPrimitive() ? null : field.get(one), seen, next);
                    }
                }
            }
        }
    }

    private static void meet(Object one, Set<Object> seen, Deque<Object> next) {
        if (one != null && seen.add(one)) {
            next.add(one);
        }
    }
}
