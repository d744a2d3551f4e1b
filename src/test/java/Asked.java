import java.lang.reflect.InvocationTargetException;
import java.lang.reflect.Method;
import java.util.Arrays;
import java.util.HashMap;
import java.util.Map;

/** An object that is asked by the names of its calls: the class and the oracle alike, 512 calls at most. */
final class Asked {
    static final int MOST_CALLS = 512;
    private static final Map<String, Method> METHODS = new HashMap<>();

    private final Object target;
    private int calls;

    Asked(Object target) {
        this.target = target;
    }

    int ask(String call, Object... arguments) {
        calls++;
        if (calls > MOST_CALLS) {
            throw new IllegalStateException("a test may not ask one object for more than " + MOST_CALLS + " calls");
        }
        try {
            return (int) method(call).invoke(target, arguments);
        } catch (InvocationTargetException threw) {
            throw new IllegalStateException(told(call, arguments) + " threw", threw.getCause());
        } catch (IllegalAccessException | IllegalArgumentException wrong) {
            throw new IllegalStateException(told(call, arguments) + " can't be asked", wrong);
        }
    }

    static String told(String call, Object... arguments) {
        String row = Arrays.toString(arguments);
        return call + "(" + row.substring(1, row.length() - 1) + ")";
    }

    /** Of several with one name that of numbers alone: the oracle has helpers of the same names. */
    private Method method(String call) {
        return METHODS.computeIfAbsent(target.getClass().getName() + "." + call, k -> {
            for (Method m : target.getClass().getDeclaredMethods()) {
                if (m.getName().equals(call) && Arrays.stream(m.getParameterTypes()).allMatch(Class::isPrimitive)) {
                    return m;
                }
            }
            throw new IllegalStateException("no call " + call);
        });
    }

    /** THE TEXT becomes this one. */
    void text(String text) {
        ask("wipe");
        for (int at = 0; at < text.length(); at += 8) {
            int n = Math.min(8, text.length() - at);
            long v = 0;
            for (int i = 0; i < n; i++) {
                v = v << 8 | text.charAt(at + i);
            }
            ask("write", n, v);
        }
    }

    void rule(int rule, String text) {
        text(text);
        ask("rule", rule);
    }
}
