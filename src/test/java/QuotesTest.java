import java.io.IOException;
import java.nio.file.Files;
import java.nio.file.Path;
import java.util.BitSet;
import java.util.HashMap;
import java.util.List;
import java.util.Map;
import java.util.regex.Matcher;
import java.util.regex.Pattern;
import java.util.stream.Collectors;
import java.util.stream.Stream;

/**
 * The tests of boundary cases, of sentences and of long runs name sentences of the document: each quoted
 * sentence stands where the comment says, each such test has one, and no word of the document from 'What
 * it is' to Promise 51 is without one. (FaceTest looks at 'The public face' and at what the interface says.)
 */
public final class QuotesTest {
    private static final Pattern LABEL_OR_QUOTE = Pattern.compile("(Promise \\d+|Terms \\d|What it is|Answers): |\"([^\"]+)\"");
    private static final Pattern TEST = Pattern.compile("/\\*\\*((?:(?!\\*/).)*)\\*/\\s+static void (\\w+)\\(\\)", Pattern.DOTALL);
    private static final Pattern WORDS = Pattern.compile("[^.;]*\\w[^.;]*");
    // No call can show it, as it promises nothing.
    private static final String FREE = "what later calls answer is free";
    private static final Map<String, String> SECTIONS = new HashMap<>();
    private static final Map<String, BitSet> QUOTED = new HashMap<>();

    public static void main(String[] args) throws Exception {
        readDocument(Files.readString(Path.of("../shared/DOC.md")));
        Due.be("promises in the document", SECTIONS.keySet().stream().filter(s -> s.startsWith("Promise")).count(), 51);
        Due.be("parts of the terms", SECTIONS.keySet().stream().filter(s -> s.startsWith("Terms")).count(), 6);
        for (Path file : quotingTests()) {
            lookAt(file.getFileName().toString(), Files.readString(file));
        }
        for (String section : SECTIONS.keySet()) {
            lookForUnquoted(section);
        }
        Due.end();
    }

    private static List<Path> quotingTests() throws IOException {
        Pattern name = Pattern.compile(".*(Edges|Sentences|LongRuns)Test\\.java");
        try (Stream<Path> files = Files.list(Path.of("src/test/java"))) {
            return files.filter(f -> name.matcher(f.toString()).matches()).sorted().collect(Collectors.toList());
        }
    }

    private static String oneLine(String text) {
        return text.replaceAll("```(text)?", " ").replaceAll("\\s+", " ");
    }

    private static void readDocument(String doc) {
        Matcher promise = Pattern.compile("## (Promise \\d+): [^`]*`[^`]*`: (.*?)(?=\\n## )", Pattern.DOTALL).matcher(doc);
        while (promise.find()) {
            SECTIONS.put(promise.group(1), oneLine(promise.group(2)));
        }
        Matcher terms = Pattern.compile("==== (\\d) (.*?)(?=\\n==== |\\nAhead of the calls)", Pattern.DOTALL).matcher(doc);
        while (terms.find()) {
            SECTIONS.put("Terms " + terms.group(1), oneLine(terms.group(2)));
        }
        Matcher what = Pattern.compile("## (What it is)\\n(.*?)(?=\\n## )", Pattern.DOTALL).matcher(doc);
        while (what.find()) {
            SECTIONS.put(what.group(1), oneLine(what.group(2)).trim());
        }
        Matcher answers = Pattern.compile("\n(Answers): (.*)\n").matcher(doc);
        while (answers.find()) {
            SECTIONS.put(answers.group(1), answers.group(2));
        }
        for (String section : SECTIONS.keySet()) {
            QUOTED.put(section, new BitSet());
        }
    }

    private static void lookAt(String file, String text) {
        Matcher test = TEST.matcher(text);
        int tests = 0;
        while (test.find()) {
            tests++;
            lookAtComment(file + ", " + test.group(2), oneLine(test.group(1).replaceAll("\\n\\s*\\*", " ")));
        }
        Matcher bare = Pattern.compile("static void \\w+\\(\\)").matcher(text);
        int all = 0;
        while (bare.find()) {
            all++;
        }
        Due.be(file + ": tests with a comment of their own", tests, all);
        Due.hold(file + " has tests", all > 0);
    }

    private static void lookAtComment(String test, String comment) {
        Matcher m = LABEL_OR_QUOTE.matcher(comment);
        String section = null;
        int quotes = 0;
        while (m.find()) {
            if (m.group(1) != null) {
                section = m.group(1);
                Due.hold(test + ": the document has " + section, SECTIONS.containsKey(section));
            } else {
                Due.hold(test + ": names the place of <" + m.group(2) + ">", SECTIONS.containsKey(section));
                if (SECTIONS.containsKey(section)) {
                    Due.hold(test + ": " + section + " says <" + m.group(2) + ">", mark(section, m.group(2)));
                    quotes++;
                }
            }
        }
        Due.hold(test + ": names a sentence", quotes > 0);
    }

    private static boolean mark(String section, String quote) {
        String text = SECTIONS.get(section);
        boolean found = false;
        for (int at = text.indexOf(quote); at >= 0; at = text.indexOf(quote, at + 1)) {
            QUOTED.get(section).set(at, at + quote.length());
            found = true;
        }
        return found;
    }

    private static void lookForUnquoted(String section) {
        String text = SECTIONS.get(section);
        BitSet quoted = QUOTED.get(section);
        for (int at = quoted.nextClearBit(0); at < text.length(); at = quoted.nextClearBit(at)) {
            int end = quoted.nextSetBit(at);
            String bare = text.substring(at, end < 0 ? text.length() : end);
            Due.hold(section + ": a test names <" + bare + ">", !WORDS.matcher(bare.replace(FREE, "")).find());
            at += bare.length();
        }
    }
}
