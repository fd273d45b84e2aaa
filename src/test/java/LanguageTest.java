import java.io.IOException;
import java.nio.charset.StandardCharsets;
import java.nio.file.Files;
import java.nio.file.Path;
import java.util.Arrays;
import java.util.List;
import java.util.Map;
import java.util.Set;
import java.util.TreeMap;
import java.util.regex.Matcher;
import java.util.regex.Pattern;

/** Those rules of LANGUAGE.md that can be seen in the class's text. Started in the checkout's top folder, as .ci/run does. */
public final class LanguageTest {
    private static final Path SOURCE = Path.of("src/main/java/MeatForDiamonds.java");
    private static final Set<String> LIBRARY = Set.of("System.arraycopy", "Math.min", "Math.max", "Long.bitCount");
    private static final Set<String> EXCEPTIONS = Set.of("IllegalStateException", "IllegalArgumentException",
        "UnsupportedOperationException");
    private static final int LONGEST_METHOD = 60;
    private static final int MOST_CLASSES = 12;
    private static final int MOST_PARAMETERS = 7;
    private static final int DEEPEST_CALLS = 8;

    private LanguageTest() {
    }

    public static void main(String[] args) throws IOException {
        String source = Files.readString(SOURCE, StandardCharsets.ISO_8859_1);
        Due.isTrue("signs 1 to 127", source.chars().allMatch(sign -> sign > 0 && sign < 128));
        String code = withoutTexts(source);
        wordsThatMayNotStand(code);
        libraryCalls(code);
        exceptions(code);
        Due.isTrue("classes", all("\\b(class|interface|enum|record) \\w+", code).size() <= MOST_CLASSES);
        methods(code);
        Due.end();
    }

    /** Without comments and written texts. */
    private static String withoutTexts(String source) {
        return source.replaceAll("\"[^\"\\n]*\"", "\"\"").replaceAll("(?s)/\\*.*?\\*/", "").replaceAll("//[^\\n]*", "");
    }

    private static List<String> all(String pattern, String code) {
        return Pattern.compile(pattern).matcher(code).results().map(r -> r.group()).toList();
    }

    private static void wordsThatMayNotStand(String code) {
        String[] patterns = {"\\bimport\\b", "\\bpackage\\b", "->", "::", "\\bfinally\\b", "\\bsynchronized\\b", "\\bassert\\b",
            "\\bprotected\\b", "\\bvar\\b", "\\bObject\\b", "\\bequals\\b", "\\bhashCode\\b", "\\btoString\\b", "\\bThread\\b",
            "\\bgetMessage\\b", "[|&^]= [^;]*(==|!=|<=|>=| < | > )", "static \\{"};
        for (String pattern : patterns) {
            Due.isTrue(pattern + " stands in the class", all(pattern, code).isEmpty());
        }
    }

    private static void libraryCalls(String code) {
        String classes = "\\b(System|Math|Long|Integer|Arrays|String|StringBuilder|List|ArrayList|Character|Boolean)\\b(\\.\\w+)?";
        for (String call : all(classes, code)) {
            Due.isTrue(call + " is of the library that is used", LIBRARY.contains(call));
        }
    }

    /** None that the machine throws is caught, nor a class above one. */
    private static void exceptions(String code) {
        Matcher named = Pattern.compile("(?:throw new |catch \\()(\\w+)").matcher(code);
        int found = 0;
        while (named.find()) {
            found++;
            Due.isTrue(named.group(1) + " is one of the exceptions", EXCEPTIONS.contains(named.group(1)));
        }
        Due.isTrue("some are there", found > 0);
        Due.is("throw statements that throw new ones", all("\\bthrow new \\w+", code).size(), all("\\bthrow\\b", code).size());
    }

    private static void methods(String code) {
        Matcher head = Pattern.compile("(?m)^( +)(?:\\w+(?:\\[\\])* )*(\\w+)\\(([^()]*)\\)(?: throws [\\w, ]+)? \\{$").matcher(code);
        Map<String, String> bodies = new TreeMap<>();
        int found = 0;
        while (head.find()) {
            found++;
            int end = code.indexOf("\n" + head.group(1) + "}\n", head.end());
            String method = code.substring(head.start(), end);
            String name = method.strip().lines().findFirst().orElse("");
            bodies.merge(head.group(2), code.substring(head.end(), end).replace("super(", above(head.group(2), code)), String::concat);
            Due.isTrue(name + " is short", method.lines().count() <= LONGEST_METHOD);
            Due.isTrue(name + " takes few", Arrays.stream(head.group(3).split(",")).count() <= MOST_PARAMETERS);
        }
        Due.isTrue("methods are found: " + found, found > 100);
        for (String name : bodies.keySet()) {
            int deep = depth(name, bodies, 1);
            Due.isTrue(name + " goes " + deep + " calls deep", deep <= DEEPEST_CALLS);
        }
    }

    /** How the class above one is called, or the machine's own. */
    private static String above(String name, String code) {
        Matcher head = Pattern.compile("class " + name + " extends (\\w+)").matcher(code);
        return head.find() ? head.group(1) + "(" : "super(";
    }

    /** How many calls stand open at most from a method on; methods of one name count as one, a constructor calls that above it. */
    private static int depth(String name, Map<String, String> bodies, int open) {
        int deepest = 1;
        Matcher called = Pattern.compile("\\b(\\w+)\\(").matcher(bodies.get(name));
        // Beyond the most there is no need to look on; a method that calls itself would never end.
        while (called.find() && open <= DEEPEST_CALLS) {
            boolean own = bodies.containsKey(called.group(1));
            deepest = Math.max(deepest, 1 + (own ? depth(called.group(1), bodies, open + 1) : 1));
        }
        return deepest;
    }
}
