import java.io.IOException;
import java.lang.reflect.InvocationTargetException;
import java.net.URI;
import java.net.URL;
import java.net.URLClassLoader;
import java.nio.file.Files;
import java.nio.file.Path;
import java.util.Comparator;
import java.util.List;
import java.util.regex.Matcher;
import java.util.regex.Pattern;
import java.util.stream.Stream;
import javax.tools.JavaCompiler;
import javax.tools.JavaFileObject;
import javax.tools.SimpleJavaFileObject;
import javax.tools.ToolProvider;

/** README.md's example is compiled, and each call in it answers what is told behind it; each test there is. */
public final class ReadmeTest {
    private static final Path README = Path.of("README.md"), TESTS = Path.of("src/test/java");
    /** A call, and behind it the answer that is told. */
    private static final Pattern TOLD = Pattern.compile("(\\s*(?:int p = )?)(x\\.\\w+\\(.*\\));\\s*// (-?\\d+): .*");

    /** Looks at an answer, which it hands on. */
    public static final class Looks {
        private static final Dues DUES = new Dues();

        public static int at(String call, long got, long want) {
            DUES.due(call, got, want);
            return (int) got;
        }
    }

    private static final class Text extends SimpleJavaFileObject {
        private final String text;

        Text(String text) {
            super(URI.create("string:///ReadmeExample.java"), Kind.SOURCE);
            this.text = text;
        }

        @Override
        public CharSequence getCharContent(boolean ignoreErrors) {
            return text;
        }
    }

    private static String program(String example) {
        StringBuilder text = new StringBuilder("public final class ReadmeExample {\n public static void run() {\n");
        for (String line : example.split("\n")) {
            Matcher told = TOLD.matcher(line);
            boolean isTold = told.matches();
            Looks.DUES.holds("an answer is told behind " + line, isTold || !line.contains("//"));
            text.append(!isTold ? line : told.group(1) + "ReadmeTest.Looks.at(\"" + told.group(2) + "\", " + told.group(2)
                + ", " + told.group(3) + ");").append('\n');
        }
        return text.append(" }\n}\n").toString();
    }

    private static void run(Path out, String program) throws IOException, ReflectiveOperationException {
        JavaCompiler compiler = ToolProvider.getSystemJavaCompiler();
        List<String> options = List.of("-d", out.toString(), "-cp", System.getProperty("java.class.path"));
        List<JavaFileObject> texts = List.of(new Text(program));
        boolean isCompiled = compiler.getTask(null, null, null, options, null, texts).call();
        Looks.DUES.holds("the example compiles", isCompiled);
        if (isCompiled) {
            try (URLClassLoader loader = new URLClassLoader(new URL[] {out.toUri().toURL()})) {
                loader.loadClass("ReadmeExample").getMethod("run").invoke(null);
            } catch (InvocationTargetException e) {
                Looks.DUES.holds("the example threw " + e.getCause(), false);
            }
        }
    }

    private static void testsAreTold(String readme) throws IOException {
        try (Stream<Path> files = Files.list(TESTS)) {
            for (Path file : files.toList()) {
                String name = file.getFileName().toString().replace(".java", "");
                if (name.endsWith("Test")) {
                    Looks.DUES.holds("README.md tells of " + name, readme.contains("`" + name + "`"));
                }
            }
        }
    }

    /** Each call of the face stands in a table of calls. */
    private static void callsAreTold(String readme) {
        for (java.lang.reflect.Method m : FrostBids.class.getDeclaredMethods()) {
            if (java.lang.reflect.Modifier.isPublic(m.getModifiers())) {
                Looks.DUES.holds("README.md tells of " + m.getName() + "()",
                    Pattern.compile("(?m)^\\|.*`" + m.getName() + "`").matcher(readme).find());
            }
        }
    }

    public static void main(String[] args) throws IOException, ReflectiveOperationException {
        String readme = Files.readString(README);
        Matcher example = Pattern.compile("```java\n(.*?)```", Pattern.DOTALL).matcher(readme);
        boolean isThere = example.find();
        Looks.DUES.holds("there is an example", isThere);
        testsAreTold(readme);
        callsAreTold(readme);
        Path out = Files.createTempDirectory("readme");
        if (isThere) {
            run(out, program(example.group(1)));
        }
        try (Stream<Path> left = Files.walk(out)) {
            for (Path path : left.sorted(Comparator.reverseOrder()).toList()) {
                Files.delete(path);
            }
        }
        Looks.DUES.end();
    }
}
