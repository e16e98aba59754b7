/** Promises 21 to 27: cases, forms, quarrels, and what a changed word moves. */
public final class CasesTest {
    public static void main(String[] args) {
        heard();
        read();
        readEdges();
        left();
        form();
        parts();
        quarrel();
        moves();
        movesOfTheCode();
        movesRefuses();
        Due.end();
    }

    private static OneCode two() {
        OneCode x = new OneCode();
        x.district(0, 3);
        x.district(1, 5);
        return x;
    }

    private static void heard() {
        OneCode x = two();
        Due.be("21 district", x.heard(2, -1, 2), -1);
        Due.be("21 district below", x.heard(-1, 0, 0), -1);
        Due.be("21 sort", x.heard(0, 1536, 0), -2);
        Due.be("21 sort below", x.heard(0, -1, 0), -2);
        int[] noEnds = {-3, -2, -1, 2, 99, 204, 1000};
        for (int end : noEnds) {
            Due.be("21 end " + end, x.heard(0, 0, end), -2);
        }
        int[] ends = {0, 1, 100, 199, 200, 203};
        for (int i = 0; i < 100; i++) {
            Due.be("21 case", x.heard(i % 2, i, ends[i % 6]), i);
        }
        Due.be("21 full", x.heard(0, 0, 0), -4);
        Due.be("21 bad ahead of full", x.heard(0, 0, 2), -2);
        Due.be("21 count", x.count(2), 100);
    }

    private static void lay(OneCode x, int sheet, int sort, int... items) {
        x.sheet(sheet, sort, items.length);
        for (int i = 0; i < items.length; i++) {
            x.cell(sheet, i, items[i]);
        }
    }

    private static void read() {
        OneCode x = two();
        for (int sort = 0; sort < 3; sort++) {
            lay(x, sort, sort, 9, 3, 3, 2, 3, 1, 3, 1);
            Due.be("22 read of sort " + sort, x.read(0, sort, sort, 1), sort);
        }
        x.heard(0, 1535, 0);
        Due.be("22 the sort is as read", x.quarrel(0, 1), 3);
        lay(x, 0, 2, 1, 0, 0, 0, 0, 0, 203);
        Due.be("22 district", x.read(2, 0, 2, 0), -1);
        Due.be("22 sheet", x.read(0, 3, 2, 0), -1);
        Due.be("22 sheet below", x.read(0, -1, 2, 0), -1);
        Due.be("22 sort", x.read(0, 0, 3, 0), -1);
        Due.be("22 sort below", x.read(0, 0, -1, 0), -1);
        Due.be("22 another sort", x.read(0, 0, 0, 0), -13);
        Due.be("22 another sort ahead of items", x.read(0, 0, 0, 9), -13);
        x.sheet(1, -1, 0);
        Due.be("22 missing", x.read(0, 1, 2, 9), -11);
        Due.be("22 not so many", x.read(0, 0, 2, 1), -12);
        Due.be("22 i below", x.read(0, 0, 2, -1), -12);
        Due.be("22 i at most", x.read(0, 0, 2, Integer.MAX_VALUE), -12);
        Due.be("22 i at least", x.read(0, 0, 2, Integer.MIN_VALUE), -12);
        Due.be("22 read", x.read(1, 0, 2, 0), 4);
        Due.be("22 count", x.count(2), 5);
    }

    private static void readEdges() {
        OneCode x = two();
        int[] sizes = {4, 4, 3, 4, 2, 4};
        for (int f = 0; f < 6; f++) {
            lay(x, 0, 2, 0, 0, 0, 0, 0, 0, 0);
            x.cell(0, f, sizes[f]);
            Due.be("22 field above", x.read(0, 0, 2, 0), -2);
            x.cell(0, f, -1);
            Due.be("22 field below", x.read(0, 0, 2, 0), -2);
            x.cell(0, f, sizes[f] - 1);
            Due.be("22 field at most", x.read(0, 0, 2, 0), f);
        }
        x.cell(0, 6, 2);
        Due.be("22 end", x.read(0, 0, 2, 0), -2);
        x.sheet(0, 0, 7);
        x.cell(0, 6, 203);
        Due.be("22 a byte of 203 is below 0", x.read(0, 0, 0, 0), -2);
        x.cell(0, 6, 127);
        Due.be("22 a byte of 127", x.read(0, 0, 0, 0), 6);
        x.cell(0, 6, 256 + 1);
        Due.be("22 a byte's lowest 8 bits", x.read(0, 0, 0, 0), 7);
        for (int i = 8; i < 100; i++) {
            x.heard(0, 0, 1);
        }
        Due.be("22 full", x.read(0, 0, 0, 0), -4);
        x.cell(0, 6, 2);
        Due.be("22 bad ahead of full", x.read(0, 0, 0, 0), -2);
        Due.be("22 not so many ahead of full", x.read(0, 0, 0, 1), -12);
    }

    private static void left() {
        OneCode x = two();
        Due.be("23 none", x.left(2), -1);
        Due.be("23 none below", x.left(-1), -1);
        Due.be("23 all", x.left(0), 72);
        x.heard(0, Due.sort(0, 0, 0, 0, 1, 0), 1);
        x.heard(0, Due.sort(3, 3, 2, 3, 1, 3), 1);
        Due.be("23 one end: all still", x.left(0), 72);
        x.heard(0, Due.sort(3, 3, 2, 3, 0, 3), 0);
        Due.be("23 by the oath alone", x.left(0), 4);
        Due.be("23 another district", x.left(1), 72);
        x.heard(0, Due.sort(1, 1, 1, 1, 0, 1), 100);
        Due.be("23 three ends: nothing", x.left(0), 0);
    }

    private static void form() {
        OneCode x = two();
        x.heard(0, Due.sort(0, 0, 0, 0, 1, 0), 1);
        x.heard(0, Due.sort(3, 3, 2, 3, 1, 3), 1);
        x.heard(0, Due.sort(3, 3, 2, 3, 0, 3), 0);
        int[] oaths = {49, 52, 53, 56};
        for (int i = 0; i < 4; i++) {
            Due.be("24 form " + i, x.form(0, i), oaths[i]);
        }
        Due.be("24 no more", x.form(0, 4), -1);
        Due.be("24 none below", x.form(0, -1), -1);
        Due.be("24 last of all", x.form(1, 71), 71);
        Due.be("24 beyond all", x.form(1, 72), -1);
        Due.be("24 district", x.form(2, 0), -1);
    }

    private static void parts() {
        OneCode x = two();
        x.heard(0, Due.sort(1, 1, 1, 1, 0, 2), 1);
        x.heard(0, Due.sort(1, 1, 1, 1, 0, 1), 0);
        x.heard(0, Due.sort(1, 1, 1, 1, 0, 3), 1);
        // Left are goods<2, goods=1, goods>1.
        Due.be("25 left", x.left(0), 3);
        Due.be("25 the sort", x.parts(0, 0), 0);
        Due.be("25 the lesser part", x.parts(0, 1), 1);
        x.heard(0, Due.sort(1, 1, 1, 1, 0, 0), 0);
        Due.be("25 two are left", x.left(0), 2);
        Due.be("25 the least", x.parts(0, 0), 0);
        x.heard(1, Due.sort(1, 0, 0, 0, 0, 0), 1);
        x.heard(1, Due.sort(2, 0, 0, 0, 0, 0), 0);
        x.heard(1, Due.sort(0, 0, 0, 0, 0, 0), 1);
        // Left are what<2, what=2, what>1: one half at most.
        Due.be("25 of what", x.parts(1, 0), 0);
        Due.be("25 what", x.parts(0, 2), -1);
        Due.be("25 what below", x.parts(0, -1), -1);
        Due.be("25 district", x.parts(2, 0), -1);
        x.heard(1, Due.sort(0, 0, 0, 0, 0, 0), 0);
        Due.be("25 nothing is left", x.parts(1, 0), -1);
        Due.be("25 nothing is left, lesser", x.parts(1, 1), -1);
        x.district(0, 1);
        x.heard(2, Due.sort(1, 0, 1, 1, 0, 0), 1);
        x.heard(2, Due.sort(2, 0, 2, 2, 0, 0), 0);
        // Four forms of what, house and kids each: half of them hold where all are 1 or 2.
        Due.be("25 twelve are left", x.left(2), 12);
        Due.be("25 not the first sort", x.parts(2, 0), Due.sort(1, 0, 1, 1, 0, 0));
        Due.be("25 half", x.parts(2, 1), 6);
        OneCode y = two();
        y.heard(0, Due.sort(0, 0, 0, 0, 0, 1), 1);
        y.heard(0, Due.sort(0, 0, 0, 0, 0, 2), 0);
        y.heard(0, Due.sort(0, 0, 0, 0, 0, 0), 1);
        y.heard(0, Due.sort(0, 0, 0, 0, 0, 3), 1);
        // Left is goods=2 alone: no sort parts it.
        Due.be("25 one is left", y.left(0), 1);
        Due.be("25 one is left, the sort", y.parts(0, 0), 0);
        Due.be("25 one is left, lesser", y.parts(0, 1), 0);
    }

    private static void quarrel() {
        OneCode x = two();
        Due.be("26 none", x.quarrel(0, 0), -1);
        x.heard(0, 7, 1);
        x.heard(0, 8, 1);
        x.heard(1, 7, 0);
        x.heard(0, 8, 0);
        x.heard(0, 7, 1);
        Due.be("26 not of another district", x.quarrel(0, 0), 1);
        Due.be("26 the second", x.quarrel(0, 1), 3);
        x.heard(0, 7, 0);
        x.heard(0, 7, 200);
        Due.be("26 by the first", x.quarrel(0, 0), 0);
        Due.be("26 then by the second", x.quarrel(0, 1), 5);
        Due.be("26 none in the other", x.quarrel(1, 0), -1);
        Due.be("26 none in the other, second", x.quarrel(1, 1), -1);
        Due.be("26 what", x.quarrel(0, 2), -1);
        Due.be("26 what below", x.quarrel(0, -1), -1);
        Due.be("26 district", x.quarrel(2, 0), -1);
    }

    private static void moves() {
        OneCode x = two();
        x.district(0, 4);
        Due.custom(x, 0, 0, "void if age=1");
        Due.rule(x, "void if age=2", 0, 3, 0, 0, 0);
        x.heard(0, Due.sort(0, 2, 0, 0, 0, 0), 1);
        x.heard(1, Due.sort(0, 2, 0, 0, 0, 0), 1);
        x.heard(2, Due.sort(0, 3, 0, 0, 0, 0), 1);
        x.heard(2, Due.sort(0, 1, 0, 0, 0, 0), 1);
        Due.feed(x, "void if age>1");
        Due.be("27 sorts", x.moves(0, 0), 768);
        Due.be("27 people", x.moves(0, 1), 768 * 7);
        Due.be("27 cases", x.moves(0, 2), 2);
        Due.be("27 the tape stays", x.count(9), 13);
        Due.be("27 the rule stays", x.answer(0, Due.sort(0, 1, 0, 0, 0, 0), 0, 0), 0);
        x.carried(2, 0);
        Due.be("27 where the code is not in force", x.moves(0, 1), 768 * 3);
        Due.be("27 cases of these", x.moves(0, 2), 0);
        x.strike(0, 0);
        Due.be("27 a rule struck moves nothing", x.moves(0, 0), 0);
        Due.be("27 no people", x.moves(0, 1), 0);
        Due.be("27 another", x.moves(1, 0), 384);
        Due.be("27 its own text", x.count(9), 13);
    }

    private static void movesOfTheCode() {
        OneCode x = two();
        Due.line(x, 0, "void");
        Due.rule(x, "holds if what=2", 5, 5, 0, 0, 0);
        Due.rule(x, "holds", 5, 5, 0, 7, 0);
        x.carried(1, 3);
        x.heard(1, 0, 1);
        x.heard(0, 0, 1);
        Due.feed(x, "void if what<2");
        Due.be("27 saved alone", x.moves(1, 0), 384 * 3);
        Due.be("27 not in force anywhere", x.moves(1, 1), 0);
        Due.be("27 lines alone", x.moves(0, 0), 768);
        Due.be("27 a saved one not yet in force", x.moves(2, 0), 0);
        x.days(3);
        Due.be("27 where it is in force", x.moves(1, 1), 384 * 3 * 5);
        Due.be("27 cases there", x.moves(1, 2), 1);
        x.days(4);
        Due.be("27 in force since today", x.moves(2, 0), 384 * 3);
    }

    private static void movesRefuses() {
        OneCode x = two();
        Due.custom(x, 0, 0, "void");
        Due.be("27 an empty tape", x.moves(0, 0), -10);
        Due.be("27 none ahead of a fault", x.moves(1, 0), -1);
        Due.feed(x, "to x");
        Due.be("27 a fault", x.moves(0, 2), -13);
        Due.be("27 the tape stays with a fault", x.count(9), 4);
        Due.be("27 rule below", x.moves(-1, 0), -1);
        Due.be("27 what", x.moves(0, 3), -1);
        Due.be("27 what below", x.moves(0, -1), -1);
        Due.be("27 still", x.answer(0, 0, 0, 0), 0);
    }
}
