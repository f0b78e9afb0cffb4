import java.io.IOException;
import java.lang.reflect.Constructor;
import java.lang.reflect.Field;
import java.lang.reflect.Method;
import java.lang.reflect.Modifier;
import java.nio.file.Files;
import java.nio.file.Path;
import java.util.ArrayList;
import java.util.LinkedHashMap;
import java.util.List;
import java.util.Map;
import java.util.regex.Matcher;
import java.util.regex.Pattern;

/** The public face is the document's, and there is no other member that can be reached from outside. */
public final class FaceTest {
    private static final int CALLS = 33, CONSTANTS = 5;
    /** A call, and constants of one type, as the document's face tells them. */
    private static final Pattern CALL = Pattern.compile("    public (int|long) (\\w+)\\(([^)]*)\\);");
    private static final Pattern ROW = Pattern.compile("    public static final (int|long) ([^;]*);");

    /** The document's calls: what each answers, its name, the types of its parameters. */
    private static List<String> calls(String doc) {
        List<String> calls = new ArrayList<>();
        Matcher m = CALL.matcher(doc);
        while (m.find()) {
            calls.add(m.group(1) + " " + m.group(2) + "(" + m.group(3).replaceAll("(\\w+) \\w+", "$1") + ")");
        }
        return calls;
    }

    /** The document's constants: type and name, and what each is. */
    private static Map<String, Long> constants(String doc) {
        Map<String, Long> constants = new LinkedHashMap<>();
        Matcher m = ROW.matcher(doc);
        while (m.find()) {
            for (String one : m.group(2).split(", ")) {
                String[] parts = one.split(" = ");
                boolean isLeast = parts[1].equals("Long.MIN_VALUE");
                constants.put(m.group(1) + " " + parts[0], isLeast ? Long.MIN_VALUE : Long.parseLong(parts[1]));
            }
        }
        return constants;
    }

    private static String sign(Method m) {
        List<String> types = new ArrayList<>();
        for (Class<?> c : m.getParameterTypes()) {
            types.add(c.getName());
        }
        return m.getReturnType().getName() + " " + m.getName() + "(" + String.join(", ", types) + ")";
    }

    private static void methods(Dues dues, String doc) {
        List<String> wanted = calls(doc);
        dues.due("calls in the document", wanted.size(), CALLS);
        for (Method m : FrostBids.class.getDeclaredMethods()) {
            if (!Modifier.isPrivate(m.getModifiers())) {
                dues.holds(m + " is of the face, once", wanted.remove(sign(m)));
                dues.holds(m + " is public, and nothing else", m.getModifiers() == Modifier.PUBLIC);
            }
        }
        dues.holds("no call is missing: " + wanted, wanted.isEmpty());
    }

    private static void fields(Dues dues, String doc) throws IllegalAccessException {
        Map<String, Long> wanted = constants(doc);
        dues.due("constants in the document", wanted.size(), CONSTANTS);
        for (Field f : FrostBids.class.getDeclaredFields()) {
            if (!Modifier.isPrivate(f.getModifiers())) {
                Long value = wanted.remove(f.getType().getName() + " " + f.getName());
                dues.holds(f + " is of the face", value != null);
                dues.due("modifiers of " + f, f.getModifiers(), Modifier.PUBLIC | Modifier.STATIC | Modifier.FINAL);
                dues.holds(f + " is " + value, value != null && value == f.getLong(null));
            }
        }
        dues.holds("no constant is missing: " + wanted, wanted.isEmpty());
    }

    public static void main(String[] args) throws IOException, IllegalAccessException {
        Dues dues = new Dues();
        String doc = Files.readString(Path.of(args.length > 1 ? args[1] : "../shared/DOC.md"));
        dues.holds("public and final", FrostBids.class.getModifiers() == (Modifier.PUBLIC | Modifier.FINAL));
        dues.holds("of no package, under nothing", FrostBids.class.getPackageName().isEmpty()
            && FrostBids.class.getSuperclass() == Object.class && FrostBids.class.getInterfaces().length == 0);
        Constructor<?>[] made = FrostBids.class.getDeclaredConstructors();
        dues.holds("one constructor without arguments", made.length == 1 && made[0].getParameterCount() == 0
            && made[0].getModifiers() == Modifier.PUBLIC);
        methods(dues, doc);
        fields(dues, doc);
        dues.end();
    }
}
