import java.lang.reflect.Method;
import java.util.Arrays;
import java.util.HashMap;
import java.util.Map;

/** An object whose calls are made by name, so that tables can hold them; it is used for 512 calls at most. */
final class Told {
    static final int MOST_CALLS = 512;
    private static final Map<String, Method> FACE = new HashMap<>();

    static {
        for (Method m : StuntSet.class.getDeclaredMethods()) {
            FACE.put(m.getName(), m);
        }
    }

    private final StuntSet set = new StuntSet();
    private int calls = 0;

    /** Every argument is told as a long; of a boolean 0 is false. */
    int call(String name, long... args) {
        calls++;
        if (calls > MOST_CALLS) {
            throw new IllegalStateException("a test used an object for more than " + MOST_CALLS + " calls");
        }
        Method m = FACE.get(name);
        Class<?>[] types = m.getParameterTypes();
        Object[] values = new Object[types.length];
        for (int i = 0; i < types.length; i++) {
            if (types[i] == boolean.class) {
                values[i] = args[i] != 0;
            } else if (types[i] == long.class) {
                values[i] = args[i];
            } else {
                values[i] = Math.toIntExact(args[i]);
            }
        }
        try {
            return (Integer) m.invoke(set, values);
        } catch (ReflectiveOperationException e) {
            throw new IllegalStateException(name + Arrays.toString(args) + " threw", e.getCause());
        }
    }

    int calls() {
        return calls;
    }

    /** Feeds all signs of a text, eight at a time. */
    Told feed(String text) {
        for (int i = 0; i < text.length(); i += 8) {
            int n = Math.min(8, text.length() - i);
            call("feed", n, bytesOf(text.substring(i, i + n)));
        }
        return this;
    }

    /** Up to eight signs as feed() takes them, the first one lowest. */
    static long bytesOf(String signs) {
        long bytes = 0;
        for (int i = signs.length() - 1; i >= 0; i--) {
            bytes = bytes << 8 | signs.charAt(i) & 255;
        }
        return bytes;
    }
}
