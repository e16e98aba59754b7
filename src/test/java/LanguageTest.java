import java.nio.file.Files;
import java.nio.file.Path;
import java.util.HashMap;
import java.util.HashSet;
import java.util.List;
import java.util.Map;
import java.util.Set;
import java.util.regex.Matcher;
import java.util.regex.Pattern;

/** The rules of LANGUAGE.md that can be seen by going through the text of OneCode.java. */
public final class LanguageTest {
    private static final Pattern METHOD = Pattern.compile(
        "^ +(?:(?:public|private|static|final) )*[A-Z]?\\w+(?:\\[\\])* (\\w+)\\((.*)\\) \\{$");
    private static final Pattern MAKER = Pattern.compile("^ +(?:public )?([A-Z]\\w+)\\((.*)\\) \\{$");
    private static final Pattern CALL = Pattern.compile("\\b([a-z]\\w*)\\(");
    // Of the library's classes only functions are told, and of these only some.
    private static final Pattern LIBRARY = Pattern.compile("\\b(Integer|Long|Math|Arrays|System|String)\\.(\\w+)(\\(?)");
    private static final Set<String> TOLD = Set.of("Integer.bitCount", "Long.bitCount", "Math.min", "Math.max", "Arrays.fill",
        "System.arraycopy");
    private static final Set<String> NO_CALLS = Set.of("if", "for", "while", "switch", "return");
    private static final Map<String, Set<String>> calls = new HashMap<>();

    public static void main(String[] args) throws Exception {
        List<String> lines = Files.readAllLines(Path.of("src/main/java/OneCode.java"));
        words(lines);
        methods(lines);
        for (String name : calls.keySet()) {
            int depth = depth(name, 0);
            Due.hold(name + " goes " + depth + " deep", depth <= 8);
        }
        Due.end();
    }

    private static void words(List<String> lines) {
        Pattern forbidden = Pattern.compile("\\b(throw|throws|try|catch|synchronized|assert|package|instanceof|volatile|"
            + "native|protected|yield|var|double|float|Object|System\\.(?!arraycopy)|\\w+Exact|hashCode|toString)\\b"
            + "|->|::|@|>>>=\\s*$|\\bnew \\w+\\(.*\\) \\{");
        int classes = 0;
        for (int i = 0; i < lines.size(); i++) {
            String line = bare(lines.get(i));
            Matcher m = forbidden.matcher(line);
            Due.hold("line " + (i + 1) + " has no such word: " + line, !m.find());
            Matcher library = LIBRARY.matcher(line.startsWith("import ") ? "" : line);
            while (library.find()) {
                Due.hold("line " + (i + 1) + " calls what is told: " + library.group(), library.group(3).equals("(")
                    && TOLD.contains(library.group(1) + "." + library.group(2)));
            }
            Due.hold("line " + (i + 1) + " has signs 1 to 127", line.chars().allMatch(c -> c > 0 && c < 128));
            Due.hold("line " + (i + 1) + " is short", lines.get(i).length() <= 120);
            if (line.startsWith("import ")) {
                Due.hold("an import of the library told", line.equals("import java.util.Arrays;"));
            }
            if (line.matches(".*\\b(class|record|enum|interface) \\w+.*\\{")) {
                classes++;
                Due.hold("a class inside is static and private", classes == 1
                    || line.startsWith("    private static final class "));
            }
        }
        Due.hold("some twelve classes: " + classes, classes <= 12);
    }

    /** A line without its comment and with its texts emptied. */
    private static String bare(String line) {
        String s = line.trim().startsWith("*") || line.trim().startsWith("/*") ? "" : line;
        return s.replaceAll("\"[^\"]*\"", "\"\"").replaceAll("'[^']'", "0").replaceAll("//.*", "");
    }

    private static void methods(List<String> lines) {
        for (int i = 0; i < lines.size(); i++) {
            Matcher m = METHOD.matcher(lines.get(i));
            Matcher maker = MAKER.matcher(lines.get(i));
            boolean isMaker = maker.matches();
            if (!isMaker && !m.matches()) {
                continue;
            }
            String name = isMaker ? "new " + maker.group(1) : m.group(1);
            String given = isMaker ? maker.group(2) : m.group(2);
            if (NO_CALLS.contains(name)) {
                continue;
            }
            Due.hold(name + " takes seven numbers at most", given.split(",").length <= 7);
            String end = lines.get(i).replaceAll("\\S.*", "") + "}";
            int last = i + 1;
            Set<String> called = calls.computeIfAbsent(name, n -> new HashSet<>());
            while (!lines.get(last).equals(end)) {
                Matcher call = CALL.matcher(bare(lines.get(last)));
                while (call.find()) {
                    called.add(call.group(1));
                }
                last++;
            }
            Due.hold(name + " is short", last - i + 1 <= 60);
            i = last;
        }
        Due.hold("methods were found", calls.size() > 100);
    }

    /** By name alone, so that methods of one name count as one: that is never too few. */
    private static int depth(String name, int above) {
        int deepest = 0;
        for (String next : calls.getOrDefault(name, Set.of())) {
            if (calls.containsKey(next) && above < 20) {
                deepest = Math.max(deepest, depth(next, above + 1));
            }
        }
        return deepest + 1;
    }
}
