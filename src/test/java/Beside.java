import java.lang.reflect.Method;
import java.lang.reflect.Modifier;
import java.util.Arrays;
import java.util.Map;
import java.util.TreeMap;

/** An AnalogDays and a PlainDays of the same calls: each must answer as the other does. */
final class Beside {
    /** The document says nothing of an object after so many calls. */
    static final int MOST_CALLS = 512;

    private static final Map<String, Method> FACE = new TreeMap<>();

    static {
        for (Method method : AnalogDays.class.getDeclaredMethods()) {
            if (Modifier.isPublic(method.getModifiers())) {
                FACE.put(method.getName(), method);
            }
        }
    }

    private final String name;
    private final Due due;
    private final AnalogDays x = new AnalogDays();
    private final PlainDays plain = new PlainDays();
    private int calls = 0;

    Beside(String name, Due due) {
        this.name = name;
        this.due = due;
    }

    static String[] names() {
        return FACE.keySet().toArray(String[]::new);
    }

    /** The calls that are left. */
    int left() {
        return MOST_CALLS - calls;
    }

    /** What the call must answer. */
    long call(String method, int... a) {
        if (left() == 0) {
            throw new IllegalStateException("a call too many");
        }
        calls++;
        long want = plain.call(method, a);
        due.is(name + ", call " + calls + ": " + method + Arrays.toString(a), answer(method, a), want);
        return want;
    }

    /** What told(what) would answer, without the call. */
    int told(int what) {
        return (int) plain.call("told", what);
    }

    int weight(int m) {
        return plain.weight(m);
    }

    private long answer(String method, int... a) {
        try {
            return ((Number) FACE.get(method).invoke(x, Arrays.stream(a).boxed().toArray())).longValue();
        } catch (ReflectiveOperationException e) {
            throw new IllegalStateException(method + Arrays.toString(a) + " threw", e);
        }
    }
}
