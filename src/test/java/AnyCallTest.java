import java.lang.reflect.InvocationTargetException;
import java.lang.reflect.Method;
import java.util.ArrayList;
import java.util.Arrays;
import java.util.Comparator;
import java.util.List;

/**
 * No call throws, for any arguments in any state, behind the last call that is promised, too
 * (rule 7 of the language); what calls answer is looked at elsewhere.
 */
public final class AnyCallTest {
    private static final int OBJECTS = 120, CALLS = 4000;
    private static final int[] EDGES = {Integer.MIN_VALUE, Integer.MIN_VALUE + 1, -1000000, -4096, -64, -10, -9, -2, -1,
        60, 61, 99, 100, 127, 128, 999, 1000, 4095, 4096, 9999, 10000, 999999, 1 << 30, Integer.MAX_VALUE - 15,
        Integer.MAX_VALUE - 9, Integer.MAX_VALUE - 1, Integer.MAX_VALUE};
    private static final String[] TOWNS = {"fern 99;tower 99;chill 99 p<9;chill 99 c<99", "glow 99 !(c=0|n>1)&w<9",
        "chill 9 h<5&!k=3|(((((n=1)))))", "glow 1 !!!!!p=1;chill 1 !(!(!c<3))", "fern 0;tower 0",
        "glow 1 p=0|p=1|p=2|p=3|p=4|p=5&c=1|c=2|c=3|c=4|c=5|c=6|c=7&k=1", "((((((", "chill 5 p=0&", "x"};

    private long seed = 4711;

    /** A number 0 .. most. */
    private int any(int most) {
        seed = seed * 6364136223846793005L + 1442695040888963407L;
        return (int) ((seed >>> 33) % (most + 1));
    }

    private int number() {
        switch (any(5)) {
            case 0: return EDGES[any(EDGES.length - 1)];
            case 1: return any(4095);
            case 2: return any(21);
            default: return any(6);
        }
    }

    private Object[] arguments(Method call) {
        Object[] made = new Object[call.getParameterCount()];
        for (int i = 0; i < made.length; i++) {
            made[i] = call.getParameterTypes()[i] == boolean.class ? (Object) (any(1) == 0) : (Object) number();
        }
        return made;
    }

    private void go(List<Method> face, Dues dues) throws IllegalAccessException {
        FrostBids x = new FrostBids();
        for (int i = 0; i < CALLS && dues.wrong() == 0; i++) {
            if (any(30) == 0) {
                Edges.feed(x, TOWNS[any(TOWNS.length - 1)]);
                x.town();
            }
            Method call = face.get(any(face.size() - 1));
            Object[] arguments = arguments(call);
            try {
                call.invoke(x, arguments);
            } catch (InvocationTargetException e) {
                dues.holds("call " + i + ", " + call.getName() + Arrays.toString(arguments) + " threw " + e.getCause(), false);
            }
        }
        dues.holds("an object answers to the end", true);
    }

    public static void main(String[] args) throws IllegalAccessException {
        Dues dues = new Dues();
        List<Method> face = new ArrayList<>();
        for (Method m : FrostBids.class.getDeclaredMethods()) {
            if (java.lang.reflect.Modifier.isPublic(m.getModifiers())) {
                face.add(m);
            }
        }
        face.sort(Comparator.comparing(Method::getName));
        dues.due("calls of the face", face.size(), 33);
        AnyCallTest test = new AnyCallTest();
        for (int i = 0; i < OBJECTS; i++) {
            test.go(face, dues);
        }
        dues.end();
    }
}
