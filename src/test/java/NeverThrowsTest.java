import java.lang.reflect.InvocationTargetException;
import java.lang.reflect.Method;
import java.lang.reflect.Modifier;
import java.util.ArrayList;
import java.util.Comparator;
import java.util.List;

/** Calls with any numbers in any state: none may throw, and the same calls answer the same. */
public final class NeverThrowsTest {
    private static final int RUNS = 250;
    private static final int CALLS = 512;
    private static final List<Method> METHODS = new ArrayList<>();
    private static Dice d;

    public static void main(String[] args) throws Exception {
        for (Method m : OneCode.class.getDeclaredMethods()) {
            if (Modifier.isPublic(m.getModifiers())) {
                METHODS.add(m);
            }
        }
        METHODS.sort(Comparator.comparing(Method::getName));
        for (int run = 0; run < RUNS; run++) {
            d = new Dice(run + 100000);
            int wild = run % 5 == 0 ? 90 : run % 5 * 5;
            OneCode x = new OneCode();
            OneCode twin = new OneCode();
            if (run % 2 == 0) {
                fill(x);
                d = new Dice(run + 100000);
                fill(twin);
            }
            for (int i = 0; i < CALLS; i++) {
                if (d.chance(10)) {
                    String text = d.chance(70) ? d.text() : d.spoiled();
                    feed(x, text);
                    feed(twin, text);
                }
                Method m = METHODS.get(d.below(METHODS.size()));
                if (m.getName().equals("near") && d.chance(70)) {
                    continue;
                }
                Object[] numbers = numbers(m.getParameterCount(), wild);
                Due.be("run " + run + ": " + m.getName(), call(twin, m, numbers), call(x, m, numbers));
            }
        }
        Due.end();
    }

    /** All that an object holds, to the brim. */
    private static void fill(OneCode x) {
        for (int i = 0; i < 8; i++) {
            x.district(i % 5, 1 + i);
        }
        for (int i = 0; i < 80; i++) {
            feed(x, d.text());
            int kind = 1 + i % 5;
            x.rule(kind > 3 ? 5 : i % 2, kind, d.below(3), d.below(9), kind == 2 ? 3 : 0);
        }
        for (int i = 0; i < 15; i++) {
            feed(x, d.text());
            x.way(i % 5, d.below(3));
        }
        for (int i = 0; i < 100; i++) {
            x.heard(d.below(8), d.below(1536), 200);
            x.deed(d.below(8), d.below(1536));
            x.person(d.below(8), i == 0 ? -1 : d.below(i), 1, 1, 1, d.below(999));
            x.line(d.below(9));
            x.section();
        }
        for (int i = 0; i < 3; i++) {
            x.sheet(i, i, 40);
        }
    }

    private static void feed(OneCode x, String text) {
        for (int i = 0; i < text.length(); i++) {
            x.feed(text.charAt(i), 1);
        }
    }

    private static Object[] numbers(int n, int wild) {
        Object[] all = new Object[n];
        for (int i = 0; i < n; i++) {
            all[i] = d.chance(wild) ? d.wild() : d.chance(70) ? d.below(6) : d.below(100);
        }
        return all;
    }

    private static int call(OneCode x, Method m, Object[] numbers) throws Exception {
        try {
            return (Integer) m.invoke(x, numbers);
        } catch (InvocationTargetException e) {
            System.out.println(m.getName() + " threw " + e.getCause());
            Due.hold(m.getName() + " does not throw", false);
            return 0;
        }
    }
}
