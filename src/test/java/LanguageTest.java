import java.io.IOException;
import java.nio.file.Files;
import java.nio.file.Path;
import java.util.ArrayList;
import java.util.Arrays;
import java.util.LinkedHashMap;
import java.util.List;
import java.util.Map;
import java.util.regex.Matcher;
import java.util.regex.Pattern;

/** Rules of ../shared/LANGUAGE.md that can be looked up in the text of the class. */
public final class LanguageTest {
    private static final String[] NOT_THERE = {
        "\\bthrow\\b", "\\bthrows\\b", "\\btry\\b", "\\bcatch\\b", "\\bsynchronized\\b", "\\bassert\\b", "->", "::",
        "\\bpackage\\b", "@", "\\bObject\\b", "\\bSystem\\.(?!arraycopy)", "\\bequals\\b", "\\bhashCode\\b",
        "\\btoString\\b", "Exact\\b", "\\bprotected\\b", "\\bRandom\\b", "\\bThread\\b", "\\bvar\\b",
        "static \\{", "\\bwhile \\(true\\)", "for \\(;;\\)", "\\bdouble\\b", "\\bfloat\\b"};
    /** What is used of the library's static functions that the language leaves. */
    private static final List<String> LIBRARY = List.of("Math.min", "Math.max", "Arrays.fill", "System.arraycopy");
    private static final int LONGEST_METHOD = 60, MOST_CLASSES = 12, MOST_PARAMETERS = 7, MOST_DEEP = 8;
    private static final Pattern METHOD =
        Pattern.compile("^\\s+(?:public |private |static |final )*[\\w\\[\\]]+ (\\w+)\\(([^)]*)\\) \\{$");

    /** The text without comments and what stands in quotes. */
    private static String bare(String text) {
        String noComments = text.replaceAll("(?s)/\\*.*?\\*/", "").replaceAll("//[^\n]*", "");
        return noComments.replaceAll("\"(\\\\.|[^\"\\\\])*\"", "\"\"").replaceAll("'(\\\\.|[^'\\\\])'", "' '");
    }

    private static void words(Dues dues, String bare) {
        for (String regex : NOT_THERE) {
            Matcher m = Pattern.compile(regex).matcher(bare);
            dues.holds("nothing like " + regex, !m.find());
        }
        Matcher imports = Pattern.compile("import ([\\w.]+);").matcher(bare);
        while (imports.find()) {
            dues.holds("import of " + imports.group(1), imports.group(1).equals("java.util.Arrays"));
        }
        Matcher library = Pattern.compile("\\b([A-Z]\\w*[a-z]\\w*)\\.(\\w+)\\(").matcher(bare);
        while (library.find()) {
            String call = library.group(1) + "." + library.group(2);
            dues.holds("the library's " + call, LIBRARY.contains(call));
        }
        Matcher statics = Pattern.compile("(?m)^\\s+(?:public |private )?static (?!final|class)[^(]*;").matcher(bare);
        dues.holds("static fields are final", !statics.find());
        Matcher classes = Pattern.compile("\\b(?:class|interface|enum|record) \\w+").matcher(bare);
        int many = 0;
        while (classes.find()) {
            many++;
        }
        dues.holds(many + " classes", many <= MOST_CLASSES);
    }

    /** The line in which a method ends that begins in line i. */
    private static int endOf(String[] lines, int i) {
        String close = lines[i].substring(0, lines[i].indexOf(lines[i].trim())) + "}";
        int end = i;
        while (end < lines.length && !lines[end].equals(close)) {
            end++;
        }
        return end;
    }

    private static void methods(Dues dues, String bare) {
        String[] lines = bare.split("\n");
        for (int i = 0; i < lines.length; i++) {
            Matcher m = METHOD.matcher(lines[i]);
            if (m.matches()) {
                dues.holds(m.group(1) + " is short", endOf(lines, i) - i < LONGEST_METHOD);
                dues.holds(m.group(1) + " takes few parameters", m.group(2).split(",").length <= MOST_PARAMETERS);
            }
        }
    }

    /** By names alone: which methods stand in the text of which; those of one name are taken as one. */
    private static Map<String, List<String>> callsByName(String bare) {
        List<String> names = new ArrayList<>();
        List<String> bodies = new ArrayList<>();
        String[] lines = bare.split("\n");
        for (int i = 0; i < lines.length; i++) {
            Matcher m = METHOD.matcher(lines[i]);
            if (m.matches()) {
                names.add(m.group(1));
                bodies.add(String.join("\n", Arrays.asList(lines).subList(i + 1, endOf(lines, i))));
            }
        }
        Map<String, List<String>> calls = new LinkedHashMap<>();
        for (int i = 0; i < names.size(); i++) {
            List<String> called = calls.computeIfAbsent(names.get(i), n -> new ArrayList<>());
            Matcher m = Pattern.compile("\\b(\\w+)\\(").matcher(bodies.get(i));
            while (m.find()) {
                if (names.contains(m.group(1)) && !called.contains(m.group(1))) {
                    called.add(m.group(1));
                }
            }
        }
        return calls;
    }

    /** How many calls stand open at most from a method on, each name once. */
    private static int depth(String name, Map<String, List<String>> calls, List<String> open) {
        open.add(name);
        int deepest = 0;
        for (String next : calls.getOrDefault(name, List.of())) {
            if (!open.contains(next)) {
                deepest = Math.max(deepest, depth(next, calls, open));
            }
        }
        open.remove(open.size() - 1);
        return deepest + 1;
    }

    public static void main(String[] args) throws IOException {
        Dues dues = new Dues();
        String text = Files.readString(Path.of(args.length > 0 ? args[0] : "src/main/java/FrostBids.java"));
        String bare = bare(text);
        words(dues, bare);
        methods(dues, bare);
        Map<String, List<String>> calls = callsByName(bare);
        for (String name : calls.keySet()) {
            int deep = depth(name, calls, new ArrayList<>());
            dues.holds(name + "() goes " + deep + " calls deep", deep <= MOST_DEEP);
        }
        for (char c : text.toCharArray()) {
            dues.holds("a sign of the text is 1 .. 127", c >= 1 && c <= 127);
        }
        dues.end();
    }
}
