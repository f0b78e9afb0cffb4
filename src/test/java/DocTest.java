import java.io.IOException;
import java.lang.reflect.Method;
import java.nio.file.Files;
import java.nio.file.Path;
import java.util.List;
import java.util.regex.Matcher;
import java.util.regex.Pattern;

/** The words that tests of edges quote are the document's, and no word of a promise or of the Terms has no test. */
public final class DocTest {
    private static final List<Class<?>> TESTS = List.of(TownsTest.class, PanesTest.class, GrowthTest.class,
        HoursToComeTest.class, SeenAndOddsTest.class, PlansAndBooksTest.class, ActsAndImageTest.class,
        RefusalsTest.class);
    private static final int PROMISES = 34;

    /** A part of the document, and which of its signs are quoted. */
    private static final class Part {
        final String name, text;
        final boolean[] quoted;

        Part(String name, String text) {
            this.name = name;
            this.text = text.replaceAll("\\s+", " ").trim();
            this.quoted = new boolean[this.text.length()];
        }

        boolean isOnce(String words) {
            return text.contains(words) && text.indexOf(words) == text.lastIndexOf(words);
        }

        /** Marks the words where they first stand here; whether they do. */
        boolean quote(String words) {
            int at = text.indexOf(words);
            for (int i = at; at >= 0 && i < at + words.length(); i++) {
                quoted[i] = true;
            }
            return at >= 0;
        }

        /** The letters and digits that no test quotes; others are blanks. */
        String left() {
            StringBuilder left = new StringBuilder();
            for (int i = 0; i < text.length(); i++) {
                boolean isWord = Character.isLetterOrDigit(text.charAt(i));
                left.append(isWord && !quoted[i] ? text.charAt(i) : ' ');
            }
            return left.toString().replaceAll(" +", " ").trim();
        }
    }

    private static String found(String doc, String regex) {
        Matcher m = Pattern.compile(regex, Pattern.DOTALL).matcher(doc);
        return m.find() ? m.group(1) : "";
    }

    /** The Terms first, then what each promise says behind its call. */
    private static Part[] parts(String doc) {
        Part[] parts = new Part[PROMISES + 1];
        String terms = found(doc, "==== 1 (.*?)\nAhead of the calls").replaceAll("```\\w*|==== \\d", "");
        parts[0] = new Part("Terms", terms + found(doc, "seen, odds;( part 0 [^\n]*)"));
        for (int i = 1; i <= PROMISES; i++) {
            parts[i] = new Part("promise " + i, found(doc, "## Promise " + i + ": [^`]*`[^`]*`: (.*?)\n(?:#|$)"));
        }
        return parts;
    }

    private static void quote(Dues dues, Part[] parts, Method test) {
        Edge edge = test.getAnnotation(Edge.class);
        dues.holds(test.getName() + " names a promise", edge.promise() >= 1 && edge.promise() <= PROMISES);
        for (String words : edge.says()) {
            boolean isInPromise = parts[edge.promise()].quote(words);
            boolean isInTerms = parts[0].isOnce(words) && parts[0].quote(words);
            dues.holds("'" + words + "' of " + test.getName() + " stands there (in the Terms just once)",
                isInPromise || isInTerms);
        }
    }

    public static void main(String[] args) throws IOException {
        Dues dues = new Dues();
        Part[] parts = parts(Files.readString(Path.of(args.length > 1 ? args[1] : "../shared/DOC.md")));
        for (Class<?> tests : TESTS) {
            for (Method test : Edges.edgesOf(tests)) {
                quote(dues, parts, test);
            }
        }
        for (Part part : parts) {
            dues.holds(part.name + " is there", !part.text.isEmpty());
            dues.holds(part.name + " is quoted to the end; left: " + part.left(), part.left().isEmpty());
        }
        dues.end();
    }
}
