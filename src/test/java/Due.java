import java.nio.charset.StandardCharsets;

/** Counts answers that are not as due, and ends a test by what it counted. */
final class Due {
    private static int checked;
    private static int wrong;

    private Due() {
    }

    static void be(String call, long got, long want) {
        checked++;
        if (got != want) {
            wrong++;
            System.out.println(call + " answered " + got + ", due is " + want);
        }
    }

    static void hold(String what, boolean so) {
        be(what, so ? 1 : 0, 1);
    }

    static int wrong() {
        return wrong;
    }

    static int checked() {
        return checked;
    }

    static void end() {
        System.out.println(checked + " checks, " + wrong + " wrong");
        if (wrong != 0 || checked == 0) {
            System.exit(1);
        }
    }

    /** Feeds a text, four bytes a call; the tape is to be long enough. */
    static void feed(OneCode x, String text) {
        byte[] bytes = text.getBytes(StandardCharsets.ISO_8859_1);
        for (int i = 0; i < bytes.length; i += 4) {
            int n = Math.min(4, bytes.length - i);
            int number = 0;
            for (int j = 0; j < n; j++) {
                number = number << 8 | bytes[i + j] & 255;
            }
            int before = x.count(9);
            be("feed of " + text, x.feed(number, n), before + n);
        }
    }

    static int rule(OneCode x, String text, int body, int kind, int rank, int from, int witnesses) {
        feed(x, text);
        return x.rule(body, kind, rank, from, witnesses);
    }

    /** A WRITTEN rule of a custom from day 0 on. */
    static int custom(OneCode x, int body, int rank, String text) {
        return rule(x, text, body, 1, rank, 0, 0);
    }

    /** A LINE of the code from day 0 on. */
    static int line(OneCode x, int rank, String text) {
        return rule(x, text, 5, 4, rank, 0, 0);
    }

    static int way(OneCode x, int slot, int rank, String text) {
        feed(x, text);
        return x.way(slot, rank);
    }

    static int sort(int what, int age, int house, int kids, int oath, int goods) {
        return ((((what * 4 + age) * 3 + house) * 4 + kids) * 2 + oath) * 4 + goods;
    }
}
