import java.lang.reflect.InvocationTargetException;
import java.lang.reflect.Method;
import java.lang.reflect.Modifier;
import java.util.Arrays;
import java.util.Comparator;
import java.util.function.IntUnaryOperator;

/** Counts and prints the answers that are not as due; a test ends with {@link #end()} or {@link #runAll}. */
final class Due {
    private static final int NONE = -1;
    /** Numbers far from those that are taken, among them such as wrap around into them. */
    private static final int[] FAR = {Integer.MIN_VALUE, Integer.MIN_VALUE + 1, -65536, -256, -100, -32, -16, -10, -5, -4,
        -3, -2, -1, 0, 16, 24, 32, 64, 100, 256, 401, 65536, 1 << 30, Integer.MAX_VALUE - 1, Integer.MAX_VALUE};

    private static int wrong = 0;
    private static int asked = 0;
    private static String running = "";

    private Due() {
    }

    static void is(String call, long got, long want) {
        asked++;
        if (got != want) {
            wrong++;
            System.out.println(running + call + " answered " + got + ", due is " + want);
        }
    }

    static void holds(String what, boolean itDoes) {
        asked++;
        if (!itDoes) {
            wrong++;
            System.out.println(running + "not so: " + what);
        }
    }

    /** A call takes just the numbers from the least to the most; it is asked on an object that is new each time. */
    static void takesOnly(String call, int least, int most, int refusal, IntUnaryOperator ask) {
        for (int v = least; v <= most; v++) {
            int got = ask.applyAsInt(v);
            holds(call + " takes " + v + ", but it answered " + got, got >= NONE);
        }
        is(call + " of " + (least - 1), ask.applyAsInt(least - 1), refusal);
        is(call + " of " + (most + 1), ask.applyAsInt(most + 1), refusal);
        for (int v : FAR) {
            if (v < least || v > most) {
                is(call + " of " + v, ask.applyAsInt(v), refusal);
            }
        }
    }

    /** Runs every test of a class, which is a static method without arguments that answers nothing, and ends. */
    static void runAll(Class<?> tests) {
        Method[] methods = tests.getDeclaredMethods();
        Arrays.sort(methods, Comparator.comparing(Method::getName));
        int run = 0;
        for (Method m : methods) {
            if (Modifier.isStatic(m.getModifiers()) && m.getParameterCount() == 0 && m.getReturnType() == void.class) {
                running = m.getName() + ": ";
                runOne(m);
                run++;
            }
        }
        running = "";
        holds("there are tests", run > 0);
        System.out.println(run + " tests");
        end();
    }

    private static void runOne(Method test) {
        int before = asked;
        try {
            test.setAccessible(true);
            test.invoke(null);
        } catch (InvocationTargetException e) {
            e.getCause().printStackTrace(System.out);
            holds("nothing is thrown, but this was: " + e.getCause(), false);
        } catch (IllegalAccessException e) {
            holds("the test can be run", false);
        }
        holds("the test asks something", asked > before);
    }

    static void end() {
        System.out.println(wrong == 0 ? asked + " answers are as due" : wrong + " of " + asked + " answers are not as due");
        if (wrong != 0) {
            System.exit(1);
        }
    }
}
