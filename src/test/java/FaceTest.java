import java.lang.reflect.Constructor;
import java.lang.reflect.Field;
import java.lang.reflect.Method;
import java.lang.reflect.Modifier;
import java.util.ArrayList;
import java.util.Collections;
import java.util.List;

/** The public face is the document's, and there is no other member that can be reached from outside. */
public final class FaceTest {
    private static final int MOST_FIELDS = 20;
    private static final String[] FACE = {
        "int feed(int)", "int town()", "int pane(int, int, int)", "int of(int, int)", "int grows(int, int)",
        "int row(int, int, int)", "int set(int, int, int)", "int cold(int)", "int shut(int, boolean)",
        "int breathe(int)", "int told(int)", "int pass(int)", "int on(int, int)", "int best(int, int, int)",
        "int heat(int, int, int)", "int comes(int, int)", "int breaths(int, int)", "int see(int, int, int)",
        "int colds(int)", "int warms(int)", "int firm(int, int)", "long odds(int, int, int, int)",
        "long mean(int)", "int plan(int, int)", "int done(int)", "int book(int, int)", "int looked()",
        "int act(int, int, int)", "int trace(int)", "int as(int, int)", "int image()", "int undo()",
        "int count(int)"};

    private static String sign(Method m) {
        List<String> types = new ArrayList<>();
        for (Class<?> c : m.getParameterTypes()) {
            types.add(c.getName());
        }
        return m.getReturnType().getName() + " " + m.getName() + "(" + String.join(", ", types) + ")";
    }

    private static void constants(Dues dues) {
        dues.due("NONE", FrostBids.NONE, -1);
        dues.due("BAD", FrostBids.BAD, -2);
        dues.due("STATE", FrostBids.STATE, -3);
        dues.due("FULL", FrostBids.FULL, -4);
        dues.due("NO", FrostBids.NO, Long.MIN_VALUE);
    }

    private static void methods(Dues dues) {
        List<String> open = new ArrayList<>();
        List<String> openNames = new ArrayList<>();
        for (Method m : FrostBids.class.getDeclaredMethods()) {
            if (!Modifier.isPrivate(m.getModifiers())) {
                open.add(sign(m));
                openNames.add(m.getName());
                dues.holds(m + " is public and no static one", m.getModifiers() == Modifier.PUBLIC);
            }
        }
        for (String one : FACE) {
            dues.holds("the face has " + one, open.remove(one));
        }
        dues.holds("no method besides: " + open, open.isEmpty());
        for (Method m : FrostBids.class.getDeclaredMethods()) {
            boolean isOpen = !Modifier.isPrivate(m.getModifiers());
            dues.holds(m + " bears no name of the face", isOpen || !openNames.contains(m.getName()));
        }
        for (Class<?> c : FrostBids.class.getDeclaredClasses()) {
            dues.holds(c + " is static", Modifier.isStatic(c.getModifiers()));
            dues.holds(c + " is not public", !Modifier.isPublic(c.getModifiers()));
        }
    }

    /** How many fields a class has beside its constants. */
    private static int fieldsOf(Class<?> c) {
        int many = 0;
        for (Field f : c.getDeclaredFields()) {
            many += Modifier.isStatic(f.getModifiers()) ? 0 : 1;
        }
        return many;
    }

    private static void fields(Dues dues) {
        List<String> open = new ArrayList<>();
        for (Field f : FrostBids.class.getDeclaredFields()) {
            if (!Modifier.isPrivate(f.getModifiers())) {
                open.add(f.getName());
                int wanted = Modifier.PUBLIC | Modifier.STATIC | Modifier.FINAL;
                dues.due("modifiers of " + f, f.getModifiers(), wanted);
            }
        }
        Collections.sort(open);
        dues.holds("few fields", fieldsOf(FrostBids.class) <= MOST_FIELDS);
        for (Class<?> c : FrostBids.class.getDeclaredClasses()) {
            dues.holds("few fields in " + c, fieldsOf(c) <= MOST_FIELDS);
        }
        dues.holds("no constant besides: " + open, open.equals(List.of("BAD", "FULL", "NO", "NONE", "STATE")));
    }

    public static void main(String[] args) {
        Dues dues = new Dues();
        dues.holds("public and final", FrostBids.class.getModifiers() == (Modifier.PUBLIC | Modifier.FINAL));
        Constructor<?>[] made = FrostBids.class.getDeclaredConstructors();
        dues.holds("one constructor without arguments", made.length == 1 && made[0].getParameterCount() == 0
            && Modifier.isPublic(made[0].getModifiers()));
        constants(dues);
        methods(dues);
        fields(dues);
        dues.end();
    }
}
