import java.io.IOException;
import java.nio.file.Files;
import java.nio.file.Path;
import java.util.ArrayList;
import java.util.Arrays;
import java.util.LinkedHashMap;
import java.util.List;
import java.util.Map;
import java.util.regex.Matcher;
import java.util.regex.Pattern;

/** Rules of ../shared/LANGUAGE.md that can be looked up in the text of the class. */
public final class LanguageTest {
    /** What may stand nowhere, and the number of the rule. */
    private static final String[] NOT_THERE = {
        "6 \\bthrows?\\b", "6 \\btry\\b", "6 \\bcatch\\b", "6 \\bsynchronized\\b", "6 \\bassert\\b",
        "6 \\bhashCode\\b", "2 (?m)^(?!\\s*(case|default)\\b).*->", "2 ::", "1 \\bpackage\\b", "1 \\bprotected\\b",
        "3 \\bObject\\b", "4 Exact\\b", "5 static \\{", "9 \\bwhile \\(true\\)", "9 for \\(;;\\)",
        "13 \\bRandom\\b", "13 \\bThread\\b", "13 \\bcurrentTimeMillis\\b", "13 \\bnanoTime\\b"};
    /** What is there of the library's classes (rule 4). */
    private static final String IMPORTS = "java\\.util\\.(Arrays|ArrayList|List|Iterator)";
    private static final String LIBRARY = "(Integer|Long|Math)\\.\\w+|List\\.of|Arrays\\.(copyOf|copyOfRange|fill)"
        + "|System\\.arraycopy";
    /** Of rule 11; 'some' sixty lines and twelve classes are a tenth more at most. */
    private static final int LONGEST_METHOD = 66, MOST_PARAMETERS = 7, MOST_CLASSES = 13, MOST_DEEP = 8;
    private static final Pattern METHOD =
        Pattern.compile("^\\s+(?:public |private |static |final )*[\\w\\[\\]<>]+ (\\w+)\\(([^)]*)\\) \\{$");

    /** The text without comments and what stands in quotes. */
    private static String bare(String text) {
        String noComments = text.replaceAll("(?s)/\\*.*?\\*/", "").replaceAll("//[^\n]*", "");
        return noComments.replaceAll("\"(\\\\.|[^\"\\\\])*\"", "\"\"").replaceAll("'(\\\\.|[^'\\\\])'", "' '");
    }

    private static void words(Dues dues, String bare) {
        for (String rule : NOT_THERE) {
            String regex = rule.substring(rule.indexOf(' ') + 1);
            dues.holds("rule " + rule, !Pattern.compile(regex).matcher(bare).find());
        }
        Matcher imports = Pattern.compile("import ([\\w.*]+);").matcher(bare);
        while (imports.find()) {
            dues.holds("rule 4: import of " + imports.group(1), imports.group(1).matches(IMPORTS));
        }
        Matcher statics = Pattern.compile("(?m)^\\s+(?:public |private )?static (?!final|class)[^(]*;").matcher(bare);
        dues.holds("rule 5: static fields are final", !statics.find());
    }

    private static void library(Dues dues, String bare) {
        List<String> own = new ArrayList<>();
        Matcher classes = Pattern.compile("\\b(?:class|interface|enum|record) (\\w+)").matcher(bare);
        while (classes.find()) {
            own.add(classes.group(1));
        }
        dues.holds("rule 11: " + own.size() + " classes", own.size() <= MOST_CLASSES);
        Matcher calls = Pattern.compile("\\b([A-Z]\\w*[a-z]\\w*)\\.(\\w+)\\(").matcher(bare);
        while (calls.find()) {
            String call = calls.group(1) + "." + calls.group(2);
            dues.holds("rule 4: " + call, own.contains(calls.group(1)) || call.matches(LIBRARY));
        }
    }

    /** The line in which a method ends that begins in line i. */
    private static int endOf(String[] lines, int i) {
        String close = lines[i].substring(0, lines[i].indexOf(lines[i].trim())) + "}";
        int end = i;
        while (end < lines.length && !lines[end].equals(close)) {
            end++;
        }
        return end;
    }

    private static void methods(Dues dues, String bare) {
        String[] lines = bare.split("\n");
        for (int i = 0; i < lines.length; i++) {
            Matcher m = METHOD.matcher(lines[i]);
            if (m.matches()) {
                dues.holds("rule 11: " + m.group(1) + " is short", endOf(lines, i) - i < LONGEST_METHOD);
                int parameters = m.group(2).split(",").length;
                dues.holds("rule 11: " + m.group(1) + " takes few parameters", parameters <= MOST_PARAMETERS);
            }
        }
    }

    /** By names alone: which methods stand in the text of which; what those call that share a name is not known. */
    private static Map<String, List<String>> callsByName(String bare) {
        List<String> names = new ArrayList<>();
        List<String> bodies = new ArrayList<>();
        String[] lines = bare.split("\n");
        for (int i = 0; i < lines.length; i++) {
            Matcher m = METHOD.matcher(lines[i]);
            if (m.matches()) {
                names.add(m.group(1));
                bodies.add(String.join("\n", Arrays.asList(lines).subList(i + 1, endOf(lines, i))));
            }
        }
        Map<String, List<String>> calls = new LinkedHashMap<>();
        for (int i = 0; i < names.size(); i++) {
            boolean isShared = names.indexOf(names.get(i)) != names.lastIndexOf(names.get(i));
            List<String> called = calls.computeIfAbsent(names.get(i), n -> new ArrayList<>());
            Matcher m = Pattern.compile("\\b(\\w+)\\(").matcher(isShared ? "" : bodies.get(i));
            while (m.find()) {
                if (names.contains(m.group(1)) && !called.contains(m.group(1))) {
                    called.add(m.group(1));
                }
            }
        }
        return calls;
    }

    /** How many calls stand open at most from a method on, each name once. */
    private static int depth(String name, Map<String, List<String>> calls, List<String> open) {
        open.add(name);
        int deepest = 0;
        for (String next : calls.getOrDefault(name, List.of())) {
            if (!open.contains(next)) {
                deepest = Math.max(deepest, depth(next, calls, open));
            }
        }
        open.remove(open.size() - 1);
        return deepest + 1;
    }

    public static void main(String[] args) throws IOException {
        Dues dues = new Dues();
        String text = Files.readString(Path.of(args.length > 0 ? args[0] : "src/main/java/FrostBids.java"));
        String bare = bare(text);
        words(dues, bare);
        library(dues, bare);
        methods(dues, bare);
        Map<String, List<String>> calls = callsByName(bare);
        for (String name : calls.keySet()) {
            int deep = depth(name, calls, new ArrayList<>());
            dues.holds("rule 11: " + name + "() goes " + deep + " calls deep", deep <= MOST_DEEP);
        }
        for (char c : text.toCharArray()) {
            if (c < 1 || c > 127) {
                dues.holds("rule 4: a sign of the text is " + (int) c, false);
            }
        }
        dues.end();
    }
}
