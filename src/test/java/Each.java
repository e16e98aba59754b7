import java.lang.reflect.Method;
import java.lang.reflect.Modifier;
import java.util.Arrays;
import java.util.Comparator;

/** Runs every test of a class, which is every static method without arguments, so that none is forgotten. */
final class Each {
    private Each() {
    }

    static void run(Class<?> tests) throws Exception {
        Method[] all = tests.getDeclaredMethods();
        Arrays.sort(all, Comparator.comparing(Method::getName));
        for (Method test : all) {
            if (isTest(test)) {
                int checked = Due.checked();
                int wrong = Due.wrong();
                test.setAccessible(true);
                test.invoke(null);
                Due.hold(test.getName() + " checks something", Due.checked() > checked);
                if (Due.wrong() > wrong) {
                    System.out.println("so " + tests.getName() + "." + test.getName() + " fails");
                }
            }
        }
        Due.end();
    }

    private static boolean isTest(Method m) {
        return Modifier.isStatic(m.getModifiers()) && m.getParameterCount() == 0 && m.getReturnType() == void.class
            && !m.isSynthetic();
    }
}
