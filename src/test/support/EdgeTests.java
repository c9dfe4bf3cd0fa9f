import java.lang.annotation.Retention;
import java.lang.annotation.RetentionPolicy;
import java.lang.reflect.InvocationTargetException;
import java.lang.reflect.Method;
import java.util.ArrayList;
import java.util.Comparator;
import java.util.List;
import java.util.function.Supplier;
import java.util.function.ToLongFunction;

/** What the tests of the document's edges share: their runner, their checks and their desks. */
abstract class EdgeTests {
    static final long NOTHING = 1099511627776L;
    static final long OUTSIDE = 1099511627777L;
    static final int MIN = Integer.MIN_VALUE;
    static final int MAX = Integer.MAX_VALUE;
    static final boolean[] BOTH = {false, true};

    /** The keys by which a range is told; the desks that are told hold keys from 0 to 10. */
    private static final int[] PROBES = {MIN, -1, 0, 1, 2, 3, 4, 5, 6, 7, 8, 9, 10, 11, MAX};
    private static final int MOST_CALLS = 512;

    private static int wrong = 0;
    private static String testName = "";
    private static String sentence = "";

    /** A test of one sentence; promise 0 stands for 'What it is' and 'Terms'. */
    @Retention(RetentionPolicy.RUNTIME)
    @interface Edge {
        int promise();

        String says();
    }

    /** Runs each test of a class, and ends with exit code 1 if one fails or a promise has none. */
    static void run(Class<? extends EdgeTests> tests, int firstPromise, int lastPromise) {
        List<Method> all = testsOf(tests);
        for (Method test : all) {
            runOne(test);
        }
        for (int promise = firstPromise; promise <= lastPromise; promise++) {
            int wanted = promise;
            if (all.stream().noneMatch(test -> test.getAnnotation(Edge.class).promise() == wanted)) {
                wrong++;
                System.out.println("no test of promise " + promise);
            }
        }
        System.out.println(all.size() + " edges, " + wrong + " answers are not as due");
        if (wrong != 0) {
            System.exit(1);
        }
    }

    private static List<Method> testsOf(Class<?> tests) {
        List<Method> all = new ArrayList<>();
        for (Method method : tests.getDeclaredMethods()) {
            if (method.isAnnotationPresent(Edge.class)) {
                all.add(method);
            }
        }
        all.sort(Comparator.comparingInt((Method test) -> test.getAnnotation(Edge.class).promise())
            .thenComparing(Method::getName));
        return all;
    }

    private static void runOne(Method test) {
        Edge edge = test.getAnnotation(Edge.class);
        testName = test.getName();
        sentence = "promise " + edge.promise() + ", " + edge.says();
        try {
            test.invoke(null);
        } catch (InvocationTargetException thrown) {
            wrong++;
            System.out.println(sentence + ": " + testName + " threw " + thrown.getCause());
        } catch (IllegalAccessException hidden) {
            throw new IllegalStateException(hidden);
        }
    }

    static void is(Object got, Object want) {
        if (!want.equals(got)) {
            wrong++;
            System.out.println(sentence + ": " + testName + ", line " + line() + ": answered " + got
                + ", due is " + want);
        }
    }

    static void is(long got, long want) {
        is((Object) told(got), told(want));
    }

    private static int line() {
        for (StackTraceElement frame : new Throwable().getStackTrace()) {
            if (frame.getMethodName().equals(testName)) {
                return frame.getLineNumber();
            }
        }
        return 0;
    }

    private static String told(long number) {
        if (number == NOTHING) {
            return "NOTHING";
        }
        if (number == OUTSIDE) {
            return "OUTSIDE";
        }
        return number == MIN ? "MIN" : number == MAX ? "MAX" : Long.toString(number);
    }

    /** Each key has ten times itself as its value. */
    static OrderedDesk desk(int... keys) {
        OrderedDesk x = new OrderedDesk();
        for (int key : keys) {
            x.put(key, key * 10);
        }
        return x;
    }

    /** A desk whose view is that of a look with both ends, turned if it is to be falling. */
    static OrderedDesk deskSeen(boolean falling, int from, boolean fromIn, int to, boolean toIn, int... keys) {
        OrderedDesk x = desk(keys);
        x.look(3, from, fromIn, to, toIn);
        if (falling) {
            x.turn();
        }
        return x;
    }

    static OrderedDesk turned(OrderedDesk x) {
        x.turn();
        return x;
    }

    /** The map's entries, rising: "1=10 2=20". */
    static void mapIs(OrderedDesk x, String want) {
        is(map(x), want);
        is(x.size(), want.isEmpty() ? 0 : want.split(" ").length);
    }

    /** The view's keys, in its order: "4 3 2". */
    static void viewIs(OrderedDesk x, String want) {
        is(view(x), want);
        is(x.viewSize(), want.isEmpty() ? 0 : want.split(" ").length);
    }

    /** The probed keys that are in the view's range, rising: "MIN -1 0 1". */
    static void rangeIs(OrderedDesk x, String want) {
        is(range(x), want);
    }

    /** The call gives this answer and leaves all that can be seen of the desk as it is. */
    static void leaves(Supplier<OrderedDesk> make, long want, ToLongFunction<OrderedDesk> call) {
        OrderedDesk x = make.get();
        is(call.applyAsLong(x), want);
        is(state(x), state(make.get()));
    }

    private static String map(OrderedDesk x) {
        StringBuilder text = new StringBuilder();
        long key = x.near(4, 0);
        for (int i = 0; i < MOST_CALLS && key != NOTHING; i++) {
            text.append(' ').append(told(key)).append('=').append(told(x.get((int) key)));
            key = x.near(3, (int) key);
        }
        return text.toString().trim();
    }

    private static String view(OrderedDesk x) {
        StringBuilder text = new StringBuilder();
        long key = x.viewKey(0);
        for (int k = 1; k < MOST_CALLS && key != NOTHING; k++) {
            text.append(' ').append(told(key));
            key = x.viewKey(k);
        }
        return text.toString().trim();
    }

    private static String range(OrderedDesk x) {
        StringBuilder text = new StringBuilder();
        for (int key : PROBES) {
            long old = x.get(key);
            if (x.viewPut(key, 1) == OUTSIDE) {
                continue;
            }
            text.append(' ').append(told(key));
            if (old == NOTHING) {
                x.remove(key);
            } else {
                x.put(key, (int) old);
            }
        }
        return text.toString().trim();
    }

    /** The outermost keys, not in themselves, at which the range may end: they tell where it ends. */
    private static String ends(OrderedDesk x) {
        boolean falling = isFalling(x);
        long least = NOTHING;
        for (int i = 0; i < PROBES.length && least == NOTHING; i++) {
            least = x.narrow(falling ? 1 : 2, PROBES[i], false, PROBES[i], false) == 0 ? PROBES[i] : NOTHING;
        }
        long greatest = NOTHING;
        for (int i = PROBES.length - 1; i >= 0 && greatest == NOTHING; i--) {
            greatest = x.narrow(falling ? 2 : 1, PROBES[i], false, PROBES[i], false) == 0 ? PROBES[i] : NOTHING;
        }
        return told(least) + " to " + told(greatest);
    }

    /** Two keys that the view must show, if its range has two, tell its order. */
    private static boolean isFalling(OrderedDesk x) {
        for (int key : PROBES) {
            x.viewPut(key, 1);
        }
        long first = x.viewKey(0);
        long second = x.viewKey(1);
        return first != NOTHING && second != NOTHING && first > second;
    }

    /** All that can be seen of a desk; it is of no use behind this. */
    private static String state(OrderedDesk x) {
        return "map " + map(x) + " of " + x.size() + ", view " + view(x) + " of " + x.viewSize()
            + ", range " + range(x) + ", ends " + ends(x);
    }
}
