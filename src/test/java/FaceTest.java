import java.lang.reflect.Constructor;
import java.lang.reflect.Field;
import java.lang.reflect.Method;
import java.lang.reflect.Modifier;
import java.nio.file.Files;
import java.nio.file.Path;
import java.util.Set;
import java.util.TreeMap;
import java.util.TreeSet;
import java.util.regex.Matcher;
import java.util.regex.Pattern;

/**
 * That the class shows the document's face and nothing else, and says ahead of the calls what the
 * document says of them there.
 */
public final class FaceTest {
    private static final String FACE = "days 1, feed 2, rule 5, strike 2, fall 1, ruleOf 2, fits 2, answer 4, why 5, "
        + "district 2, carried 2, law 5, deed 2, deedEnd 3, lost 2, courts 1, court 4, unlike 3, wrong 3, heard 3, "
        + "read 4, left 1, form 2, parts 2, quarrel 2, moves 2, person 6, goes 2, die 1, settle 1, personOf 2, "
        + "chest 1, way 2, keeps 1, near 1, line 1, section 0, like 3, yes 1, least 1, teach 3, waits 0, taught 1, "
        + "act 3, trace 1, taken 2, count 1, sheet 3, cell 3, copy 5";

    public static void main(String[] args) throws Exception {
        Due.hold("the class is public", Modifier.isPublic(OneCode.class.getModifiers()));
        Due.hold("the class is final", Modifier.isFinal(OneCode.class.getModifiers()));
        Due.be("NONE", OneCode.NONE, -1);
        Due.be("BAD", OneCode.BAD, -2);
        Due.be("STATE", OneCode.STATE, -3);
        Due.be("FULL", OneCode.FULL, -4);
        methods();
        others();
        inside();
        String doc = Files.readString(Path.of("../shared/DOC.md"));
        String source = Files.readString(Path.of("src/main/java/OneCode.java"));
        asWritten(doc, source);
        headings(doc, source);
        Due.end();
    }

    /** Each line of the document's face stands in the class, with the same names, and in the same order. */
    private static void asWritten(String doc, String source) {
        Matcher face = Pattern.compile("\\n    (public [^\\n]*);").matcher(doc);
        int lines = 0;
        int at = 0;
        while (face.find()) {
            String written = face.group(1);
            int found = source.indexOf("\n    " + written + (written.endsWith(")") ? " {" : ";"));
            // The constructor stands behind the constants and fields, ahead of all calls.
            Due.hold(written + " stands there in its order", found > at);
            at = Math.max(at, found);
            lines++;
        }
        Due.be("lines of the face", lines, 1 + 1 + 50);
    }

    /** "Ahead of the calls .. the interface says: ---- .." */
    private static void headings(String doc, String source) {
        Matcher ahead = Pattern.compile("Ahead of the calls (`.*`) the interface says: (---- .*)\\.\\n").matcher(doc);
        int named = 0;
        while (ahead.find()) {
            int heading = source.indexOf("\n    // " + ahead.group(2) + "\n");
            int next = source.indexOf("\n    // ----", heading + 1);
            Due.hold("the class says " + ahead.group(2), heading > 0);
            for (String call : ahead.group(1).replace("`", "").split(", ")) {
                int at = source.indexOf("\n    public int " + call + "(");
                Due.hold(call + " stands behind " + ahead.group(2), at > heading && (next < 0 || at < next));
                named++;
            }
        }
        Due.be("calls named there", named, 50);
    }

    private static void methods() {
        TreeMap<String, Integer> face = new TreeMap<>();
        for (String one : FACE.split(", ")) {
            face.put(one.split(" ")[0], Integer.parseInt(one.split(" ")[1]));
        }
        Set<String> found = new TreeSet<>();
        for (Method m : OneCode.class.getDeclaredMethods()) {
            boolean isPrivate = Modifier.isPrivate(m.getModifiers());
            if (isPrivate || m.isSynthetic()) {
                Due.hold("no private " + m.getName(), !face.containsKey(m.getName()));
                continue;
            }
            found.add(m.getName());
            Due.hold(m + " is of the face", face.containsKey(m.getName()));
            Due.hold(m + " is public int", Modifier.isPublic(m.getModifiers()) && m.getReturnType() == int.class);
            Due.be(m.getName() + "'s numbers", m.getParameterCount(), face.getOrDefault(m.getName(), -1));
            for (Class<?> type : m.getParameterTypes()) {
                Due.hold(m + " takes ints", type == int.class);
            }
        }
        Due.be("methods", found.size(), 50);
        Due.be("methods of the document", face.size(), 50);
    }

    private static void others() {
        Constructor<?>[] makers = OneCode.class.getDeclaredConstructors();
        Due.be("constructors", makers.length, 1);
        Due.hold("the constructor is public", Modifier.isPublic(makers[0].getModifiers()));
        Due.be("its numbers", makers[0].getParameterCount(), 0);
        Set<String> constants = Set.of("NONE", "BAD", "STATE", "FULL");
        for (Field f : OneCode.class.getDeclaredFields()) {
            boolean isConstant = constants.contains(f.getName());
            Due.hold(f + " is private but for the constants", Modifier.isPrivate(f.getModifiers()) != isConstant);
            Due.hold(f + " if static is final", !Modifier.isStatic(f.getModifiers())
                || Modifier.isFinal(f.getModifiers()));
        }
    }

    private static void inside() {
        for (Class<?> c : OneCode.class.getDeclaredClasses()) {
            Due.hold(c + " is static", Modifier.isStatic(c.getModifiers()));
            Due.hold(c + " is not public or protected", !Modifier.isPublic(c.getModifiers())
                && !Modifier.isProtected(c.getModifiers()));
            int fields = 0;
            for (Field f : c.getDeclaredFields()) {
                boolean isStatic = Modifier.isStatic(f.getModifiers());
                Due.hold(f + " if static is final", !isStatic || Modifier.isFinal(f.getModifiers()));
                fields += isStatic ? 0 : 1;
            }
            Due.hold(c + " has some twenty fields at most", fields <= 20);
            for (Method m : c.getDeclaredMethods()) {
                Due.hold(m + " bears no name of the face", (", " + FACE).indexOf(", " + m.getName() + " ") < 0);
            }
        }
    }
}
