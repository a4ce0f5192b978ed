import java.lang.reflect.InvocationTargetException;
import java.lang.reflect.Method;
import java.util.Arrays;
import java.util.HashMap;
import java.util.Map;

/** A RatchetDesk and a Model that get the same calls; answers are written as the issues write them. */
public final class Both {
    static final String INDEX = "throws.IndexOutOfBoundsException";
    static final String ARGUMENT = "throws.IllegalArgumentException";
    static final String STATE = "throws.IllegalStateException";
    private static final int MOST_CALLS = 512;
    private static final Map<String, Method> REAL = methods(RatchetDesk.class);
    private static final Map<String, Method> MODEL = methods(Model.class);
    private static int looked, wrong;

    private final String name;
    private final RatchetDesk desk;
    private final Model model;
    private int calls;

    Both(String name, int seed) {
        this.name = name;
        desk = new RatchetDesk(seed);
        model = new Model(seed);
    }

    private static Map<String, Method> methods(Class<?> type) {
        Map<String, Method> found = new HashMap<>();
        for (Method m : type.getDeclaredMethods()) {
            if ((m.getModifiers() & 1) != 0) {
                found.put(m.getName(), m);
            }
        }
        return found;
    }

    private static String outcome(Method m, Object on, Object[] args) {
        try {
            Object answer = m.invoke(on, args);
            return answer == null ? "nothing" : answer.toString();
        } catch (InvocationTargetException e) {
            return "throws." + e.getCause().getClass().getSimpleName();
        } catch (IllegalAccessException e) {
            throw new AssertionError(e);
        }
    }

    /** What the desk answers, after it was held against what the model answers. */
    String call(String method, Object... args) {
        calls++;
        String got = outcome(REAL.get(method), desk, args);
        String want = outcome(MODEL.get(method), model, args);
        hold(name + ", call " + calls + ": " + method + Arrays.toString(args), got, want);
        hold(name + ": at most " + MOST_CALLS + " calls", calls <= MOST_CALLS ? "yes" : "no", "yes");
        return got;
    }

    /** The same, where the answer is known beforehand. */
    void due(Object want, String method, Object... args) {
        String got = call(method, args);
        hold(name + ", call " + calls + " (told): " + method + Arrays.toString(args), got, want.toString());
    }

    int callsLeft() {
        return MOST_CALLS - calls;
    }

    int number(String method, Object... args) {
        String got = call(method, args);
        return got.startsWith("throws.") ? Integer.MIN_VALUE : (int) Long.parseLong(got);
    }

    /** All that can be seen of an end but for its letters: 27 calls. */
    String look(int end) {
        StringBuilder seen = new StringBuilder();
        for (int what = 0; what < 5; what++) {
            for (int part = 0; part < 4; part++) {
                seen.append(call("word", end, what, part)).append(' ');
            }
        }
        for (int what = 0; what < 4; what++) {
            seen.append(call("count", end, what)).append(' ');
        }
        seen.append(call("text", end)).append(' ');
        seen.append(call("person", end, false)).append(' ').append(call("person", end, true));
        return seen.toString();
    }

    static void hold(String what, String got, String want) {
        looked++;
        if (!got.equals(want)) {
            wrong++;
            if (wrong <= 40) {
                System.out.println(what + " answered " + got + ", due is " + want);
            }
        }
    }

    static void end() {
        System.out.println(looked + " answers held, " + wrong + " not as due");
        if (wrong != 0 || looked == 0) {
            System.exit(1);
        }
    }
}
