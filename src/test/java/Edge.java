import java.lang.reflect.InvocationTargetException;
import java.lang.reflect.Method;
import java.util.ArrayList;
import java.util.Comparator;
import java.util.List;
import java.util.function.Supplier;
import java.util.function.ToLongFunction;

/**
 * What the tests of boundary cases share. Each of them is a method of its own, named by the place
 * of its sentence in the document (p02_ is promise 2, t1_ the first of the Terms) and its case.
 */
abstract class Edge {
    static final int LEAST = Integer.MIN_VALUE, MOST = Integer.MAX_VALUE;
    static final int NONE = -1, BAD = -2, STATE = -3, FULL = -4, NOT = -5;
    static final int NOTHING = -11, CAST = -12, PLACE = -13, SIZE = -14, NONE_LOW = -10001;
    static final long NO = Long.MIN_VALUE;

    private static Due due;
    private static String name;

    static List<Method> testsOf(Class<?> tests) {
        List<Method> all = new ArrayList<>();
        for (Method m : tests.getDeclaredMethods()) {
            if (m.getName().matches("(p\\d\\d|t\\d)_\\w+")) {
                all.add(m);
            }
        }
        all.sort(Comparator.comparing(Method::getName));
        return all;
    }

    static void run(Class<?> tests) {
        due = new Due(tests.getName());
        for (Method test : testsOf(tests)) {
            name = test.getName();
            int before = due.looked();
            try {
                test.invoke(null);
            } catch (InvocationTargetException thrown) {
                due.isSo(name + ": " + thrown.getCause() + " is thrown", false);
            } catch (IllegalAccessException hidden) {
                due.isSo(name + " can be run", false);
            }
            due.isSo(name + " looks at something", due.looked() > before);
        }
        due.ends();
    }

    static void is(String call, long got, long want) {
        due.is(name + ": " + call, got, want);
    }

    static void isSo(String what, boolean so) {
        due.isSo(name + ": " + what, so);
    }

    /** The answer is the one due, and all is as if the call had not been. */
    static void same(String call, Supplier<BellsBelow> stage, ToLongFunction<BellsBelow> asked,
            long want) {
        BellsBelow x = stage.get();
        is(call, asked.applyAsLong(x), want);
        String then = State.of(x);
        String without = State.of(stage.get());
        isSo(call + " changes nothing: " + then + " due: " + without, then.equals(without));
    }

    /** Too small and too large by one, then far beyond. */
    static int[] outside(int low, int high) {
        return new int[] {low - 1, high + 1, low - 256, high + 256, LEAST, MOST};
    }

    /** outside(), for a place where low - 1 means something of its own. */
    static int[] outsideButOne(int low, int high) {
        return new int[] {low - 2, high + 1, low - 256, high + 256, LEAST, MOST};
    }
}
