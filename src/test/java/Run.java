import java.lang.reflect.InvocationTargetException;
import java.lang.reflect.Method;
import java.util.Arrays;
import java.util.HashMap;
import java.util.Map;

/** A run of calls on a new object: each call is told by its name and numbers, with the answer that is due. */
final class Run {
    static final int BAD = -1;
    static final int MOST_CALLS = 512;

    private static final Map<String, Method> METHODS = methods();
    private static int looked = 0;
    private static int wrong = 0;

    private final NoiseLamps object = new NoiseLamps();
    private int calls = 0;

    Run due(int want, String name, int... numbers) {
        int got = answer(name, numbers);
        looked++;
        if (got != want) {
            wrong++;
            System.out.println(name + Arrays.toString(numbers) + " answered " + got + ", due is " + want);
        }
        return this;
    }

    /** What a call answers, for what is compared with something else than one number. */
    int answer(String name, int... numbers) {
        calls++;
        if (calls > MOST_CALLS) {
            throw new IllegalStateException("the document promises nothing after " + MOST_CALLS + " calls");
        }
        return anyAnswer(name, numbers);
    }

    /** The same, also after the last call for which something is promised. */
    int anyAnswer(String name, int... numbers) {
        try {
            Object[] given = Arrays.stream(numbers).boxed().toArray();
            return (int) named(name).invoke(object, given);
        } catch (IllegalAccessException e) {
            throw new IllegalStateException(name + " can't be called", e);
        } catch (InvocationTargetException e) {
            throw new IllegalStateException(name + Arrays.toString(numbers) + " threw", e.getCause());
        }
    }

    /** Anything else that a test holds to be so. */
    static void holds(boolean so, String what) {
        looked++;
        if (!so) {
            wrong++;
            System.out.println("not so: " + what);
        }
    }

    int calls() {
        return calls;
    }

    /** How many answers, and other things, have been looked at in this test. */
    static int looked() {
        return looked;
    }

    /** How many of them were wrong. */
    static int wrong() {
        return wrong;
    }

    /** Each test's main method ends with this. */
    static void end() {
        System.out.println(looked + " looked at, " + wrong + " wrong");
        if (wrong != 0 || looked == 0) {
            System.exit(1);
        }
    }

    private static Method named(String name) {
        if (!METHODS.containsKey(name)) {
            throw new IllegalStateException("there is no method " + name);
        }
        return METHODS.get(name);
    }

    private static Map<String, Method> methods() {
        Map<String, Method> found = new HashMap<>();
        for (Method method : NoiseLamps.class.getDeclaredMethods()) {
            found.put(method.getName(), method);
        }
        return found;
    }
}
