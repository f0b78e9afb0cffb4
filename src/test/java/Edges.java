import java.lang.reflect.InvocationTargetException;
import java.lang.reflect.Method;
import java.util.ArrayList;
import java.util.Comparator;
import java.util.List;
import java.util.function.IntToLongFunction;

/** What tests of single edges share: how they are run, and how objects are made for them. */
abstract class Edges {
    static final int NONE = -1, BAD = -2, STATE = -3, FULL = -4, NOT_FOUND = -5, OTHER_KIND = -6;
    static final int NO_GROWTH = -999999;
    static final long NO = Long.MIN_VALUE;
    private static Dues dues = new Dues();

    /** The tests of a class, in the order of the promises. */
    static List<Method> edgesOf(Class<?> tests) {
        List<Method> edges = new ArrayList<>();
        for (Method m : tests.getDeclaredMethods()) {
            if (m.isAnnotationPresent(Edge.class)) {
                edges.add(m);
            }
        }
        Comparator<Method> byPromise = Comparator.comparingInt(m -> m.getAnnotation(Edge.class).promise());
        edges.sort(byPromise.thenComparing(Method::getName));
        return edges;
    }

    /** Runs each test of a class, and ends the program, by exit code 1 if one fails. */
    static void run(Class<?> tests) {
        int failed = 0;
        List<Method> edges = edgesOf(tests);
        for (Method edge : edges) {
            if (!holds(edge)) {
                failed++;
                Edge e = edge.getAnnotation(Edge.class);
                System.out.println("  broken: " + edge.getName() + ", promise " + e.promise() + ": "
                    + String.join(" .. ", e.says()));
            }
        }
        System.out.println(edges.size() - failed + " edges hold, " + failed + " don't");
        System.exit(failed == 0 && !edges.isEmpty() ? 0 : 1);
    }

    private static boolean holds(Method edge) {
        dues = new Dues();
        try {
            edge.setAccessible(true);
            edge.invoke(null);
        } catch (InvocationTargetException e) {
            System.out.println(edge.getName() + " threw " + e.getCause());
            return false;
        } catch (IllegalAccessException e) {
            throw new IllegalStateException(e);
        }
        return dues.looked() > 0 && dues.wrong() == 0;
    }

    static void due(String call, long got, long want) {
        dues.due(call, got, want);
    }

    /** Each of these numbers is refused by a call. */
    static void refused(String call, IntToLongFunction by, long answer, int... numbers) {
        for (int n : numbers) {
            due(call + " with " + n, by.applyAsLong(n), answer);
        }
    }

    /** A call refuses each pane that is not there; there are six in the object that it asks. */
    static void refusesPanes(String call, IntToLongFunction byPane, long answer) {
        refused(call + ", pane", byPane, answer, -1, 6, 7, 100, Integer.MIN_VALUE, Integer.MAX_VALUE);
    }

    /** The ICE of which the cells told by # are frozen; the first sign is cell 0. */
    static int ice(String cells) {
        int bits = 0;
        for (int i = 0; i < cells.length(); i++) {
            bits |= cells.charAt(i) == '#' ? 1 << i : 0;
        }
        return bits;
    }

    static void feed(FrostBids x, String text) {
        for (char sign : text.toCharArray()) {
            x.feed(sign);
        }
    }

    static int read(FrostBids x, String text) {
        feed(x, text);
        return x.town();
    }

    /** A new object with one pane, its number 0. */
    static FrostBids one(int kind, int v, int warm) {
        FrostBids x = new FrostBids();
        x.pane(kind, v, warm);
        return x;
    }

    /** A new object with one pane and a town. */
    static FrostBids one(int kind, int v, int warm, String town) {
        FrostBids x = one(kind, v, warm);
        due("town() of " + town, read(x, town), 0);
        return x;
    }

    /** A new object with a pane of each KIND above 0: pane 0 is a KITCHEN, pane 5 a TOLD one. */
    static FrostBids six() {
        FrostBids x = new FrostBids();
        for (int i = 0; i < 6; i++) {
            x.pane(i + 1, i, 9 - i);
        }
        return x;
    }

    /** A new object with one pane without ICE, whose HOUR is the last, 9999. */
    static FrostBids last(int kind, int v, int warm) {
        FrostBids x = one(kind, v, warm);
        for (int i = 0; i < 166; i++) {
            x.pass(60);
        }
        due("pass(39)", x.pass(39), 9999);
        x.set(0, 1, 0);
        return x;
    }

    /**
     * A new object with one pane, of which 999999 are PAID. That takes more than the 512 calls that
     * are promised, since a breath pays 1287 at most: there is no shorter way.
     */
    static FrostBids rich() {
        FrostBids x = one(0, 0, 0, "fern 99;tower 99");
        for (int i = 0; i < 777; i++) {
            x.set(0, 1, 4095);
            x.breathe(0);
        }
        due("told(4)", x.told(4), 999999);
        read(x, "fern 3");
        return x;
    }
}
