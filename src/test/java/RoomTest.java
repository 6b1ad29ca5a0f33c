import java.lang.management.ManagementFactory;
import java.lang.reflect.Array;
import java.lang.reflect.Field;
import java.lang.reflect.Modifier;
import java.util.Collections;
import java.util.IdentityHashMap;
import java.util.Set;

/** All calls of a run live in one room: an object is small, and its calls make no objects. */
public final class RoomTest {
    private static final int MOST_CELLS = 7000;
    private static final int MOST_OBJECTS = 60;
    /** Of 32 calls each. */
    private static final int ROUNDS = 16;

    private static long cells = 0;
    private static final Set<Object> seen = Collections.newSetFromMap(new IdentityHashMap<>());

    public static void main(String[] args) throws Exception {
        Due due = new Due();
        AnalogDays x = new AnalogDays();
        count(x);
        System.out.println("an object has " + seen.size() + " objects and arrays, " + cells + " fields and elements");
        due.holds("an object has at most " + MOST_CELLS + " fields and elements", cells <= MOST_CELLS);
        due.holds("an object has at most " + MOST_OBJECTS + " objects and arrays", seen.size() <= MOST_OBJECTS);
        com.sun.management.ThreadMXBean bean = (com.sun.management.ThreadMXBean) ManagementFactory.getThreadMXBean();
        long id = Thread.currentThread().getId();
        for (int round = 0; round < 3; round++) {
            callAll(x);
            bean.getThreadAllocatedBytes(id);
        }
        // an object of its own, as the document says nothing of one after its 512th call
        AnalogDays y = new AnalogDays();
        callAll(y);
        long before = bean.getThreadAllocatedBytes(id);
        for (int round = 1; round < ROUNDS; round++) {
            callAll(y);
        }
        long made = bean.getThreadAllocatedBytes(id) - before;
        due.holds((ROUNDS - 1) + " rounds of all calls make no objects, but made " + made + " bytes", made < 1000);
        due.end();
    }

    private static void count(Object made) throws Exception {
        if (made == null || !seen.add(made)) {
            return;
        }
        if (made.getClass().isArray()) {
            cells += Array.getLength(made);
            if (made instanceof Object[] all) {
                for (Object one : all) {
                    count(one);
                }
            }
            return;
        }
        for (Field field : made.getClass().getDeclaredFields()) {
            if (!Modifier.isStatic(field.getModifiers())) {
                cells++;
                field.setAccessible(true);
                if (!field.getType().isPrimitive()) {
                    count(field.get(made));
                }
            }
        }
    }

    private static void callAll(AnalogDays x) {
        x.draw(5, 40);
        x.day(1, 2, 3, 4);
        x.sets(0, 0, 5);
        x.rules(5, 12);
        x.at(0, 0);
        x.distance(0, 1);
        x.nearest(0, 0, 1);
        x.likes(0);
        x.serves(0);
        x.twins(2);
        x.strangers(0);
        x.follows(0, 0, 1, 1);
        x.mean(0, 0);
        x.spread(0, 0);
        x.holds(0, 0, 2);
        x.errs(0);
        x.best(0, 0);
        x.spare(0);
        x.clear();
        for (int i = 0; i < 8; i++) {
            x.type(i % 2 == 0 ? '1' : i == 7 ? ';' : ',');
        }
        x.reads();
        x.back();
        x.told(9);
        x.digest();
        x.empties();
    }
}
