import java.lang.reflect.Method;
import java.nio.file.Files;
import java.nio.file.Path;
import java.util.HashMap;
import java.util.HashSet;
import java.util.List;
import java.util.Map;
import java.util.Set;
import java.util.regex.Matcher;
import java.util.regex.Pattern;

/** The calls that README.md shows, one behind the other, answer what stands behind them there. */
public final class ReadmeTest {
    private static final Pattern MADE = Pattern.compile("OneCode code = new OneCode\\(\\);");
    private static final Pattern CALL = Pattern.compile("(?:int (\\w+) = )?code\\.(\\w+)\\((.*)\\); +// (-?\\d+)(?:: .*)?");
    private static final Map<String, Integer> NUMBERS = new HashMap<>();
    private static final Set<String> SHOWN = new HashSet<>();
    private static OneCode code;
    private static int calls;

    public static void main(String[] args) throws Exception {
        List<String> lines = Files.readAllLines(Path.of("README.md"));
        boolean java = false;
        for (String line : lines) {
            if (line.startsWith("```")) {
                java = line.equals("```java");
            } else if (java && !line.isEmpty()) {
                run(line);
            }
        }
        Due.hold("an object is used for 512 calls at most: " + calls, calls > 0 && calls <= 512);
        Due.hold("a refusal of each sort is shown", SHOWN.containsAll(Set.of("-1", "-2", "-3", "-5", "-10", "-11")));
        String all = String.join("\n", lines);
        Due.hold("the one command is told", all.contains("\n    bash .ci/run\n"));
        Due.hold("one test alone is told", all.contains("java -cp /tmp/out RulesTest\n"));
        Due.end();
    }

    private static void run(String line) throws Exception {
        Matcher call = CALL.matcher(line);
        if (MADE.matcher(line).matches()) {
            code = new OneCode();
            calls = 0;
        } else if (call.matches()) {
            int answer = ask(call.group(2), call.group(3));
            Due.be("README: " + line.trim(), answer, Integer.parseInt(call.group(4)));
            SHOWN.add(call.group(4));
            if (call.group(1) != null) {
                NUMBERS.put(call.group(1), answer);
            }
        } else {
            Due.hold("README shows a call with its answer: " + line, false);
        }
    }

    private static int ask(String name, String given) throws Exception {
        String[] words = given.isEmpty() ? new String[0] : given.split(", ");
        Class<?>[] types = new Class<?>[words.length];
        Object[] numbers = new Object[words.length];
        for (int i = 0; i < words.length; i++) {
            types[i] = int.class;
            numbers[i] = NUMBERS.containsKey(words[i]) ? NUMBERS.get(words[i]) : Integer.decode(words[i]);
        }
        Method method = OneCode.class.getMethod(name, types);
        calls++;
        return (Integer) method.invoke(code, numbers);
    }
}
