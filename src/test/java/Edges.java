import java.lang.reflect.InvocationTargetException;
import java.lang.reflect.Method;
import java.util.ArrayList;
import java.util.Comparator;
import java.util.List;
import java.util.function.Supplier;
import java.util.function.ToIntFunction;

/** Runs the methods marked as an Edge of a test class, and holds what they check and begin with. */
final class Edges {
    // Written out, not taken from the class, so that a constant that is another one is seen too.
    static final int NUMBER = -1;
    static final int FULL = -2;
    static final int LARGE = -3;
    static final int STATE = -4;
    static final int ABOVE = -5;
    /** The greatest row of all: nine times 6 over 7. */
    static final int GREATEST_ROW = 40353606;

    private static String current = "";
    private static int wrong = 0;

    private Edges() {
    }

    /** Runs all edges of a class, which must have some for each promise from the first to the last. */
    static void run(Class<?> tests, int first, int last) throws Exception {
        List<Method> edges = new ArrayList<>();
        boolean[] met = new boolean[last + 1];
        for (Method method : tests.getDeclaredMethods()) {
            Edge edge = method.getAnnotation(Edge.class);
            if (edge != null) {
                edges.add(method);
                met[edge.promise()] = true;
            }
        }
        edges.sort(Comparator.comparingInt((Method m) -> m.getAnnotation(Edge.class).promise())
                .thenComparing(Method::getName));
        for (Method edge : edges) {
            runOne(edge);
        }
        current = tests.getSimpleName();
        for (int promise = first; promise <= last; promise++) {
            due("promise " + promise + " has edges", met[promise], true);
        }
        System.out.println(tests.getSimpleName() + ": " + edges.size() + " edges, " + wrong + " wrong answers");
        if (wrong != 0) {
            System.exit(1);
        }
    }

    private static void runOne(Method edge) throws Exception {
        Edge told = edge.getAnnotation(Edge.class);
        current = "promise " + told.promise() + ", " + edge.getName() + " (\"" + told.says() + "\")";
        edge.setAccessible(true);
        try {
            edge.invoke(null);
        } catch (InvocationTargetException thrown) {
            wrong++;
            System.out.println(current + ": threw " + thrown.getCause());
        }
    }

    static void due(String what, int got, int want) {
        if (got != want) {
            wrong++;
            System.out.println(current + ": " + what + " answered " + got + ", due is " + want);
        }
    }

    static void due(String what, boolean got, boolean want) {
        due(what, got ? 1 : 0, want ? 1 : 0);
    }

    static void dueSizes(TimesBench x, int a, int b, int c) {
        due("A", x.many(1), a);
        due("B", x.many(2), b);
        due("C", x.many(3), c);
    }

    static void dueTime(TimesBench x, int t, int u, int v, int w) {
        due("u of " + t, x.row(t, 0), u);
        due("v of " + t, x.row(t, 1), v);
        due("w of " + t, x.row(t, 2), w);
    }

    /** The call is refused that way, and an object that it was not made on has nothing other. */
    static void refused(String what, Supplier<TimesBench> made, ToIntFunction<TimesBench> call, int want) {
        TimesBench x = made.get();
        due(what, call.applyAsInt(x), want);
        String after = lookThrough(x);
        String without = lookThrough(made.get());
        if (!after.equals(without)) {
            wrong++;
            System.out.println(current + ": " + what + " changed something:\n  " + after + "\n  " + without);
        }
    }

    /** What isn't from the least to the most: the nearest, and the farthest. */
    static int[] outside(int least, int most) {
        return new int[] {Integer.MIN_VALUE, least - 1, most + 1, Integer.MAX_VALUE};
    }

    static TimesBench on(int p) {
        TimesBench x = new TimesBench();
        due("ground(" + p + ")", x.ground(p), 1);
        return x;
    }

    static TimesBench onBox(int p, int a, int b, int c) {
        TimesBench x = on(p);
        due("box", x.box(a, b, c), 1);
        return x;
    }

    static void addTimes(TimesBench x, int n) {
        for (int t = 0; t < n; t++) {
            x.time(1, 1, 1);
        }
    }

    /** Over 5, with a box, a scheme, rows in hand (1 3 and 2 1 4), and two kept ones: something of everything. */
    static TimesBench busy() {
        TimesBench x = onBox(5, 1, 2, 1);
        x.set(0, 1, 0, 4);
        x.time(3, 7, 2);
        x.keep(1);
        x.box(2, 1, 1);
        x.set(1, 0, 0, 2);
        x.keep(3);
        x.box(2, 3, 2);
        x.set(0, 0, 0, 1);
        x.set(0, 1, 1, 2);
        x.set(1, 0, 0, 2);
        x.set(1, 2, 1, 3);
        x.time(6, 31, 7);
        x.time(12, 1, 5);
        x.time(5, 25, 20);
        x.time(0, 124, 24);
        x.hand(0, 0, 1);
        x.hand(0, 1, 3);
        x.hand(1, 0, 2);
        x.hand(1, 1, 1);
        x.hand(1, 2, 4);
        return x;
    }

    static TimesBench busyThen(ToIntFunction<TimesBench> call) {
        TimesBench x = busy();
        due("the call", call.applyAsInt(x) >= 0, true);
        return x;
    }

    /** A box of nine by nine by nine with 1 at each place. */
    static TimesBench fullBox(int p) {
        TimesBench x = onBox(p, 9, 9, 9);
        x.set(0, 0, 0, 1);
        for (int way = 0; way < 3; way++) {
            for (int index = 1; index < 9; index++) {
                x.turn(way, index, 0, 1);
            }
        }
        return x;
    }

    /** Each number in hand is 0: those of y seen with a 1 in x, and those of x, on a second object, with a 1 in y. */
    static void dueNoughtsInHand(Supplier<TimesBench> made) {
        for (int which = 0; which < 2; which++) {
            TimesBench x = made.get();
            int p = x.many(0);
            int size = x.many(1 + which);
            x.hand(1 - which, 0, 1);
            x.time(1, 1, 1);
            int t = x.many(4) - 1;
            for (int other = 0; other < t; other++) {
                x.change(other, 2, 0);
            }
            for (int i = 0; i < size; i++) {
                x.change(t, which, (int) Math.pow(p, i));
                due((which == 0 ? "x(" : "y(") + i + ") in hand", x.run(1), 0);
            }
        }
    }

    /** Everything that the object can be asked for; what is in hand and kept is used up by that. */
    static String lookThrough(TimesBench x) {
        StringBuilder seen = new StringBuilder();
        lookAt(x, seen);
        lookInHand(x, seen);
        for (int p = 0; p < 4; p++) {
            int back = x.back(p);
            seen.append(" kept ").append(back);
            if (back == 1) {
                lookAt(x, seen);
            }
        }
        return seen.toString();
    }

    private static void lookAt(TimesBench x, StringBuilder seen) {
        int[] many = new int[7];
        seen.append(" many");
        for (int what = 0; what < many.length; what++) {
            many[what] = x.many(what);
            seen.append(' ').append(many[what]);
        }
        seen.append(" box ");
        for (int i = 0; i < many[1]; i++) {
            for (int j = 0; j < many[2]; j++) {
                for (int k = 0; k < many[3]; k++) {
                    seen.append(x.at(i, j, k));
                }
            }
        }
        for (int t = 0; t < many[4]; t++) {
            seen.append(" time ").append(x.row(t, 0)).append(',').append(x.row(t, 1)).append(',').append(x.row(t, 2));
        }
        seen.append(" run ").append(x.run(0)).append(',').append(x.run(1));
    }

    /** The products x(i) y(j), each by a scheme of one time that takes just these two numbers. */
    private static void lookInHand(TimesBench x, StringBuilder seen) {
        int p = x.many(0);
        int a = x.many(1);
        int b = x.many(2);
        for (int t = x.many(4); t > 0; t--) {
            x.drop(0);
        }
        x.time(0, 0, 1);
        seen.append(" in hand ");
        for (int i = 0; i < a; i++) {
            x.change(0, 0, (int) Math.pow(p, i));
            for (int j = 0; j < b; j++) {
                x.change(0, 1, (int) Math.pow(p, j));
                seen.append(x.run(1));
            }
        }
    }
}
