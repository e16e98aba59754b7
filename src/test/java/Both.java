import java.lang.reflect.InvocationTargetException;
import java.lang.reflect.Method;
import java.util.HashMap;
import java.util.Map;

/**
 * An object and a Model that hear the same calls, which are told as a text: a call's name and its
 * numbers ("days 5"), one behind the other with ";" between. "say" puts the rest of its line onto THE TAPE.
 */
final class Both {
    private static final int CALLS = 512;
    private static final Map<String, Method> OF_CODE = methodsOf(OneCode.class);
    private static final Map<String, Method> OF_MODEL = methodsOf(Model.class);
    private final OneCode x = new OneCode();
    private final Model m = new Model();
    private final String what;
    private int calls;

    Both(String what) {
        this.what = what;
    }

    private static Map<String, Method> methodsOf(Class<?> type) {
        Map<String, Method> methods = new HashMap<>();
        for (Method method : type.getDeclaredMethods()) {
            methods.put(method.getName() + " " + method.getParameterCount(), method);
        }
        return methods;
    }

    boolean hasRoomFor(int more) {
        return calls + more <= CALLS;
    }

    void hear(String script) throws Exception {
        for (String call : script.split(" *; *|\n")) {
            if (call.startsWith("say ")) {
                say(call.substring(4));
            } else if (!call.isBlank()) {
                ask(call.trim());
            }
        }
    }

    private void say(String text) throws Exception {
        for (int i = 0; i < text.length(); i++) {
            int bytes = text.charAt(i);
            int n = 1;
            for (; n < 4 && i + 1 < text.length(); n++) {
                i++;
                bytes = bytes << 8 | text.charAt(i);
            }
            ask("feed " + bytes + " " + n);
        }
    }

    private void ask(String call) throws Exception {
        String[] words = call.split(" ");
        Object[] numbers = new Object[words.length - 1];
        for (int i = 0; i < numbers.length; i++) {
            numbers[i] = Integer.parseInt(words[i + 1]);
        }
        String key = words[0] + " " + numbers.length;
        calls++;
        Due.hold(what + ": the object is used for at most 512 calls", calls <= CALLS);
        Due.be(what + ": later " + call, answer(OF_CODE.get(key), x, numbers), answer(OF_MODEL.get(key), m, numbers));
    }

    private static int answer(Method method, Object of, Object[] numbers) throws Exception {
        try {
            return (Integer) method.invoke(of, numbers);
        } catch (InvocationTargetException thrown) {
            thrown.getCause().printStackTrace(System.out);
            return Integer.MIN_VALUE + (of instanceof OneCode ? 1 : 2);
        }
    }
}
