import java.lang.reflect.Array;
import java.lang.reflect.Field;
import java.lang.reflect.Modifier;
import java.util.IdentityHashMap;

/** All calls of one run live in one room: an object is small, and no call makes it larger. */
public final class RoomTest {
    // So that hundreds of objects have room among 600,000 objects and 7.3 million elements.
    private static final int MOST_OBJECTS = 250;
    private static final int MOST_ELEMENTS = 9000;
    private static final Due due = new Due();

    private final IdentityHashMap<Object, Object> seen = new IdentityHashMap<>();
    private int elements;

    public static void main(String[] args) throws Exception {
        FewerSteps x = new FewerSteps();
        RoomTest fresh = new RoomTest();
        fresh.count(x);
        due.holds("objects: " + fresh.seen.size(), fresh.seen.size() <= MOST_OBJECTS);
        due.holds("elements: " + fresh.elements, fresh.elements <= MOST_ELEMENTS);
        useAll(x);
        RoomTest used = new RoomTest();
        used.count(x);
        due.is("objects behind many calls", used.seen.size(), fresh.seen.size());
        due.is("elements behind many calls", used.elements, fresh.elements);
        due.end();
    }

    private static void useAll(FewerSteps x) {
        for (int n = 0; n < 4; n++) {
            Due.rule(x, "a=1;b=a>a=1;b=1;c=a");
        }
        for (int n = 0; n < 2; n++) {
            Due.code(x, "a=1;b=a;a=1;b=a;a=1;b=a;a=1;b=a");
            x.keep();
            x.quickest(-1);
            x.fewest(-1);
            x.spill(1);
            x.want(3);
            x.shortest(-1);
            x.go();
            x.orders();
            x.image(n);
            x.clean();
            x.restore(n);
        }
    }

    private void count(Object it) throws Exception {
        if (it == null || seen.put(it, it) != null) {
            return;
        }
        Class<?> kind = it.getClass();
        if (kind.isArray()) {
            elements += Array.getLength(it);
            for (int n = 0; n < Array.getLength(it) && !kind.getComponentType().isPrimitive(); n++) {
                count(Array.get(it, n));
            }
            return;
        }
        for (Field field : kind.getDeclaredFields()) {
            if (!Modifier.isStatic(field.getModifiers())) {
                elements++;
                field.setAccessible(true);
                if (!field.getType().isPrimitive()) {
                    count(field.get(it));
                }
            }
        }
    }
}
