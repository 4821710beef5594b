import java.io.IOException;
import java.nio.file.Files;
import java.nio.file.Path;
import java.util.Map;
import java.util.Set;
import java.util.TreeMap;
import java.util.TreeSet;
import java.util.regex.Matcher;
import java.util.regex.Pattern;

/** LANGUAGE.md, as far as the source's text can show it. Run from the project's root. */
public final class LanguageTest {
    private static final Pattern METHOD = Pattern.compile(
        "(?m)^( {4}| {8})(?:public |private |static |final )*[A-Za-z\\[\\]]+ ([a-zA-Z]+)\\(([^)]*)\\)[a-zA-Z, ]*\\{\\n");
    private static final Pattern CALL = Pattern.compile("([a-zA-Z]+)\\(");

    public static void main(String[] args) throws IOException {
        String source = Files.readString(Path.of("src/main/java/ChiefCircles.java"));
        String code = source.replaceAll("(?s)/\\*.*?\\*/", "").replaceAll("//[^\n]*", "");
        forbidden(code);
        imports(code);
        throwsOnly(code);
        methods(code);
        Check.end();
    }

    private static void forbidden(String code) {
        String[] never = {"->", "::", "\\bfinally\\b", "\\btry\\b", "\\bcatch\\b", "\\bsynchronized\\b", "\\bassert\\b",
            "Exact\\b", "\\bSystem\\.(?!arraycopy)", "\\bpackage\\b", "\\bprotected\\b", "\\bequals\\(", "\\bhashCode\\(",
            "\\btoString\\(", "\\bRandom\\b", "\\bThread\\b", "\\bdouble\\b", "\\bfloat\\b", "\\bvolatile\\b",
            "\\bnative\\b", "static \\{", "while \\(true\\)", "for \\(;;\\)", "\\[\\]\\[\\]", "[^\\x00-\\x7f]"};
        for (String pattern : never) {
            Matcher matcher = Pattern.compile(pattern).matcher(code);
            Check.due("'" + pattern + "' in the source", 0, matcher.find() ? 1 : 0);
        }
        Matcher fields = Pattern.compile("(?m)^ +(?:private |public )?static (?!final)[^(\n]*[=;]").matcher(code);
        Check.due("a static field that is not final", 0, fields.find() ? 1 : 0);
    }

    private static void imports(String code) {
        Set<String> allowed = Set.of("java.util.Arrays", "java.util.NoSuchElementException", "java.util.ArrayList",
            "java.util.List");
        Matcher matcher = Pattern.compile("import ([\\w.*]+);").matcher(code);
        while (matcher.find()) {
            Check.due("import of " + matcher.group(1), allowed.contains(matcher.group(1)));
        }
        Matcher library = Pattern.compile("\\b(Arrays|Math|Integer|Long)\\.(\\w+)").matcher(code);
        Set<String> used = Set.of("fill", "copyOf", "copyOfRange", "max", "min", "abs", "bitCount", "floorMod");
        while (library.find()) {
            Check.due(library.group(), used.contains(library.group(2)));
        }
    }

    private static void throwsOnly(String code) {
        Matcher matcher = Pattern.compile("throw ([^;]*);").matcher(code);
        while (matcher.find()) {
            Check.due(matcher.group(), matcher.group(1).matches(
                "new (IllegalStateException|IllegalArgumentException|NoSuchElementException)\\((\"[^\"]*\")?\\)"));
        }
    }

    private static void methods(String code) {
        Map<String, Set<String>> calls = new TreeMap<>();
        Set<String> open = new TreeSet<>();
        Matcher matcher = METHOD.matcher(code);
        while (matcher.find()) {
            String name = matcher.group(2);
            int end = code.indexOf("\n" + matcher.group(1) + "}\n", matcher.end() - 1);
            String body = code.substring(matcher.end(), Math.max(end, matcher.end()));
            int parameters = matcher.group(3).isEmpty() ? 0 : matcher.group(3).split(",").length;
            Check.due("parameters of " + name + " are " + parameters, parameters <= 7);
            long lines = body.lines().count();
            Check.due("lines of " + name + " are " + lines, lines <= 60);
            Set<String> called = calls.computeIfAbsent(name, k -> new TreeSet<>());
            Matcher call = CALL.matcher(body);
            while (call.find()) {
                called.add(call.group(1));
            }
            if (matcher.group().contains("public ")) {
                open.add(name);
            }
        }
        Check.due("methods of the face, and its constructor", 31, open.size());
        for (String name : open) {
            int depth = depth(name, calls, 1);
            Check.due("calls of " + name + " go " + depth + " deep", depth <= 8);
        }
    }

    /** Methods of one name count as one, so the depth may come out too great, never too small. */
    private static int depth(String name, Map<String, Set<String>> calls, int level) {
        int deepest = level;
        if (level < 40) {
            for (String called : calls.getOrDefault(name, Set.of())) {
                if (!called.equals(name)) {
                    deepest = Math.max(deepest, depth(called, calls, level + 1));
                }
            }
        }
        return deepest;
    }
}
