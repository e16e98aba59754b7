/** Promises 45 to 51: acts, counts, sheets. */
public final class ActsTest {
    public static void main(String[] args) {
        actsOfKinds();
        wrapping();
        actRefuses();
        trace();
        taken();
        count();
        sheet();
        cell();
        copy();
        copyRefuses();
        Due.end();
    }

    /** Rules 0 WRITTEN, 1 SWORN, 2 SHOWN, 3 LINE, 4 SAVED, of ranks 5 to 9. */
    private static OneCode kinds() {
        OneCode x = new OneCode();
        Due.rule(x, "void", 0, 1, 5, 0, 0);
        Due.rule(x, "void", 0, 2, 6, 0, 2);
        Due.rule(x, "void", 0, 3, 7, 0, 0);
        Due.rule(x, "void", 5, 4, 8, 0, 0);
        Due.rule(x, "void", 5, 5, 9, 0, 0);
        return x;
    }

    private static void actsOfKinds() {
        OneCode x = kinds();
        int[][] bodies = {{10}, {20, 11, 10}, {12, 20, 11, 10, 10}, {30, 10}, {11, 30, 10}, {12, 11, 30, 10, 30, 10},
            {10}, {11, 10}, {40, 12, 11, 10, 10}, {50, 10}, {20, 11, 50, 10}, {12, 20, 11, 50, 10, 50, 10}, {50, 10},
            {61, 20, 11, 50, 10}, {60, 12, 61, 20, 11, 50, 10, 50, 10}};
        int w = 20 + 5;
        int s = (20 + 6) * 3;
        int line = (20 + 8) ^ 3;
        int saved = (20 + 9) ^ 4;
        int[] due = {w, w * 2 - 5, (w * 2 - 5) ^ w,
            s, s * 2, (s * 2) ^ ((21 + 6) * 3),
            27, 54, ((21 + 7) * 2) ^ (21 + 2 + 7),
            line, line * 2 - 8, (line * 2 - 8) ^ ((23 + 8) ^ 3),
            saved, ((16 + 9) ^ 4) * 2 - 9, ((((16 + 9) ^ 4) * 2 - 9) ^ ((24 + 9) ^ 4)) + 4};
        for (int i = 0; i < 15; i++) {
            String call = "45 act " + i % 3 + " of rule " + i / 3;
            Due.be(call, x.act(i / 3, i % 3, 20), due[i]);
            Due.be(call + ", bodies", x.count(11), bodies[i].length);
            for (int n = 0; n < bodies[i].length; n++) {
                Due.be(call + ", body " + n, x.trace(n), bodies[i][n]);
            }
            Due.be(call + ", no more", x.trace(bodies[i].length), -1);
        }
    }

    private static void wrapping() {
        OneCode x = kinds();
        int most = Integer.MAX_VALUE;
        Due.be("45 wraps", x.act(0, 0, most), most + 5);
        Due.be("45 wraps by 3", x.act(1, 0, most), (most + 6) * 3);
        Due.be("45 wraps by 2", x.act(0, 1, most), (most + 5) * 2 - 5);
        Due.be("45 wraps on", x.act(2, 2, most), (Integer.MIN_VALUE + 7) * 2 ^ Integer.MIN_VALUE + 2 + 7);
        Due.be("45 wraps back", x.act(4, 1, Integer.MIN_VALUE), (Integer.MAX_VALUE - 3 + 9 ^ 4) * 2 - 9);
    }

    private static void actRefuses() {
        OneCode x = kinds();
        int[][] none = {{5, 0}, {-1, 0}, {0, 3}, {0, -1}};
        for (int[] n : none) {
            x.act(4, 2, 1);
            Due.be("45 none", x.act(n[0], n[1], 1), 0);
            Due.be("45 no trace then", x.trace(0), -1);
            Due.be("45 no bodies then", x.count(11), 0);
        }
    }

    private static void trace() {
        OneCode x = kinds();
        Due.be("46 none at first", x.trace(0), -1);
        x.act(4, 2, 0);
        Due.be("46 last", x.trace(8), 10);
        Due.be("46 none such", x.trace(9), -1);
        Due.be("46 none below", x.trace(-1), -1);
        Due.be("46 none far", x.trace(Integer.MAX_VALUE), -1);
        x.act(0, 0, 0);
        Due.be("46 of the latest", x.trace(0), 10);
        Due.be("46 of the latest alone", x.trace(1), -1);
    }

    private static void taken() {
        OneCode x = kinds();
        int[][] under = {{1, 0, 0, 0, 0, 1}, {1, 1, 0, 0, 0, 0}, {1, 0, 1, 0, 0, 0}, {1, 0, 0, 1, 0, 0},
            {1, 1, 0, 0, 1, 0}, {1, 1, 0, 0, 1, 1}};
        for (int rule = 0; rule < 5; rule++) {
            for (int k = 0; k < 6; k++) {
                int due = under[rule + 1][k] == 1 ? rule + 1 : -13;
                Due.be("47 rule " + rule + " for kind " + k, x.taken(rule, k), due);
            }
        }
        Due.be("47 kind", x.taken(0, 6), -2);
        Due.be("47 kind below", x.taken(0, -1), -2);
        Due.be("47 bad ahead of none", x.taken(5, 6), -2);
        Due.be("47 none", x.taken(5, 0), -11);
        Due.be("47 none below", x.taken(-1, 5), -11);
    }

    private static void count() {
        OneCode x = kinds();
        x.district(0, 1);
        x.district(0, 1);
        x.heard(0, 0, 0);
        for (int i = 0; i < 4; i++) {
            x.person(1, -1, 0, 0, 0, 1);
        }
        x.strike(0, 0);
        x.strike(1, 0);
        x.die(3);
        x.strike(2, 0);
        x.die(2);
        x.days(33);
        x.line(1);
        x.line(1);
        x.section();
        x.section();
        x.section();
        Due.way(x, 3, 0, "void");
        Due.way(x, 4, 0, "void");
        for (int i = 0; i < 6; i++) {
            x.deed(0, i);
        }
        x.act(3, 2, 1);
        Due.feed(x, "voi");
        int[] due = {5, 2, 1, 4, 2, 1, 33, 2, 3, 3, 2, 7, 6};
        for (int what = 0; what < 13; what++) {
            Due.be("48 what " + what, x.count(what), due[what]);
        }
        Due.be("48 bad", x.count(13), -2);
        Due.be("48 bad below", x.count(-1), -2);
    }

    /** Whether there is an item, asked without a change to a sheet whose items are all 0. */
    private static int spans(OneCode x, int sheet, int i) {
        return x.copy(sheet, i, sheet, i, 1);
    }

    private static void sheet() {
        OneCode x = new OneCode();
        Due.be("49 sheet", x.sheet(3, 0, -1), -2);
        Due.be("49 sheet below", x.sheet(-1, 0, 0), -2);
        Due.be("49 sort", x.sheet(0, 3, -1), -2);
        Due.be("49 sort below", x.sheet(0, -2, 0), -2);
        Due.be("49 n above", x.sheet(0, 0, 41), -2);
        Due.be("49 n at most", x.sheet(0, 0, Integer.MAX_VALUE), -2);
        Due.be("49 n below", x.sheet(0, 0, -1), -14);
        Due.be("49 n at least", x.sheet(0, 2, Integer.MIN_VALUE), -14);
        Due.be("49 still missing", x.cell(0, 0, 0), -11);
        Due.be("49 forty", x.sheet(0, 2, 40), 1);
        Due.be("49 the last", spans(x, 0, 39), 1);
        Due.be("49 no more", spans(x, 0, 40), -12);
        Due.be("49 a refusal", x.sheet(0, 2, 41), -2);
        Due.be("49 changes nothing", spans(x, 0, 39), 1);
        Due.be("49 none", x.sheet(1, 0, 0), 1);
        Due.be("49 none, no item", x.cell(1, 0, 0), -12);
        Due.be("49 missing again", x.sheet(1, -1, 99), 1);
        Due.be("49 is missing", x.cell(1, 0, 0), -11);
        Due.be("49 missing, n below", x.sheet(2, -1, -5), 1);
        x.district(0, 1);
        x.cell(0, 6, 2);
        Due.be("49 an item is not 0", x.read(0, 0, 2, 0), -2);
        x.sheet(0, 2, 7);
        Due.be("49 all are 0 again", x.read(0, 0, 2, 0), 0);
    }

    private static void cell() {
        OneCode x = new OneCode();
        x.district(0, 1);
        Due.be("50 sheet", x.cell(3, 0, 0), -2);
        Due.be("50 sheet below", x.cell(-1, 0, 0), -2);
        Due.be("50 missing", x.cell(0, -1, 0), -11);
        for (int sort = 0; sort < 3; sort++) {
            x.sheet(sort, sort, 7);
            Due.be("50 i below", x.cell(sort, -1, 0), -12);
            Due.be("50 i above", x.cell(sort, 7, 0), -12);
            Due.be("50 i at most", x.cell(sort, Integer.MAX_VALUE, 0), -12);
            Due.be("50 i at least", x.cell(sort, Integer.MIN_VALUE, 0), -12);
            Due.be("50 the last", x.cell(sort, 6, 1), 1);
            Due.be("50 beyond 8 bits", x.cell(sort, 0, 256 + 3), 1);
            Due.be("50 read of " + sort, x.read(0, sort, sort, 0), sort == 0 ? 0 : -2);
            Due.be("50 beyond 16 bits", x.cell(sort, 0, 65536 * 7 + 3), 1);
            Due.be("50 read again of " + sort, x.read(0, sort, sort, 0), sort == 2 ? -2 : 1 + sort);
        }
    }

    /** A SHEET 0 of shorts with these items, and 0 behind them up to 20. */
    private static OneCode laid(int... items) {
        OneCode x = new OneCode();
        x.district(0, 1);
        x.sheet(0, 1, 20);
        for (int i = 0; i < items.length; i++) {
            x.cell(0, i, items[i]);
        }
        return x;
    }

    /** That items i .. i + 6 of a SHEET of shorts tell this sort, with an END other than 0. */
    private static void tells(OneCode x, String what, int sheet, int i, int sort) {
        Due.be(what + ", read", x.read(0, sheet, 1, i), 0);
        x.heard(0, sort, 0);
        Due.be(what + ", it is that sort", x.quarrel(0, 1), 1);
    }

    private static void copy() {
        int sort = Due.sort(1, 2, 0, 3, 1, 2);
        OneCode up = laid(1, 2, 0, 3, 1, 2, 203);
        Due.be("51 up", up.copy(0, 0, 0, 1, 7), 7);
        tells(up, "51 up", 0, 1, sort);
        OneCode down = laid(9, 9, 1, 2, 0, 3, 1, 2, 203);
        Due.be("51 down", down.copy(0, 2, 0, 0, 7), 7);
        tells(down, "51 down", 0, 0, sort);
        OneCode ahead = laid(1, 2, 0, 3, 1, 2, 203);
        Due.be("51 to the end", ahead.copy(0, 0, 0, 13, 7), 7);
        tells(ahead, "51 what was copied stays", 0, 0, sort);
        OneCode other = laid(1, 2, 0, 3, 1, 2, 203);
        other.sheet(1, 1, 7);
        Due.be("51 to another", other.copy(0, 0, 1, 0, 7), 7);
        Due.be("51 nothing at the ends", other.copy(0, 20, 1, 7, 0), 0);
        tells(other, "51 to another", 1, 0, sort);
        OneCode part = laid(1, 2, 0, 3, 1, 2, 203, 3);
        Due.be("51 one item", part.copy(0, 7, 0, 3, 1), 1);
        Due.be("51 that item alone", part.copy(0, 0, 0, 0, 20), 20);
        tells(part, "51 one item", 0, 0, sort);
    }

    private static void copyRefuses() {
        OneCode x = new OneCode();
        x.sheet(0, 0, 5);
        x.sheet(1, 1, 9);
        Due.be("51 sheet", x.copy(3, 0, 0, 0, 0), -2);
        Due.be("51 other", x.copy(0, 0, 3, 0, 0), -2);
        Due.be("51 sheet below", x.copy(-1, 0, 2, 0, 0), -2);
        Due.be("51 other below", x.copy(2, 0, -1, 0, 0), -2);
        Due.be("51 missing", x.copy(2, -1, 0, 0, 0), -11);
        Due.be("51 other missing", x.copy(0, -1, 2, 0, 0), -11);
        Due.be("51 not of one sort", x.copy(0, -1, 1, 0, 0), -13);
        x.sheet(2, 0, 3);
        int[][] far = {{0, 0, -1}, {-1, 0, 0}, {0, -1, 0}, {0, 0, 4}, {3, 0, 3}, {0, 3, 1}, {6, 0, 0}, {0, 4, 0},
            {Integer.MAX_VALUE, 0, 1}, {1, 0, Integer.MAX_VALUE}, {0, Integer.MAX_VALUE, 1},
            {Integer.MIN_VALUE, 0, Integer.MIN_VALUE}, {0, Integer.MIN_VALUE, 1}};
        for (int[] f : far) {
            Due.be("51 beyond an end", x.copy(0, f[0], 2, f[1], f[2]), -12);
        }
        Due.be("51 to the end", x.copy(0, 2, 2, 0, 3), 3);
        Due.be("51 nothing", x.copy(0, 5, 2, 3, 0), 0);
    }
}
