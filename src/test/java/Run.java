import java.lang.reflect.InvocationTargetException;
import java.lang.reflect.Method;
import java.util.Arrays;

/** A run of calls on a new object: each call is told by its name and numbers, with the answer that is due. */
final class Run {
    static final int BAD = -1;

    private static int calls = 0;
    private static int wrong = 0;

    private final NoiseLamps object = new NoiseLamps();

    Run due(int want, String name, int... numbers) {
        int got = answer(name, numbers);
        calls++;
        if (got != want) {
            wrong++;
            System.out.println(name + Arrays.toString(numbers) + " answered " + got + ", due is " + want);
        }
        return this;
    }

    /** What a call answers, for what is compared with something else than one number. */
    int answer(String name, int... numbers) {
        try {
            Object[] given = Arrays.stream(numbers).boxed().toArray();
            return (int) named(name).invoke(object, given);
        } catch (IllegalAccessException e) {
            throw new IllegalStateException(name + " can't be called", e);
        } catch (InvocationTargetException e) {
            throw new IllegalStateException(name + Arrays.toString(numbers) + " threw", e.getCause());
        }
    }

    /** Anything else that a test holds to be so. */
    static void holds(boolean so, String what) {
        calls++;
        if (!so) {
            wrong++;
            System.out.println("not so: " + what);
        }
    }

    /** Each test's main method ends with this. */
    static void end() {
        System.out.println(calls + " looked at, " + wrong + " wrong");
        if (wrong != 0 || calls == 0) {
            System.exit(1);
        }
    }

    private static Method named(String name) {
        for (Method method : NoiseLamps.class.getMethods()) {
            if (method.getName().equals(name) && method.getDeclaringClass() == NoiseLamps.class) {
                return method;
            }
        }
        throw new IllegalStateException("there is no method " + name);
    }
}
