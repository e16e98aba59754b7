/** Promises 11 to 20: districts, LAW, deeds, courts, and where bodies part. */
public final class LandsTest {
    public static void main(String[] args) {
        district();
        carried();
        law();
        lawRefuses();
        deed();
        deedEnd();
        lost();
        courts();
        court();
        unlike();
        wrong();
        fewestFields();
        Due.end();
    }

    private static void district() {
        OneCode x = new OneCode();
        Due.be("11 custom", x.district(5, 0), -1);
        Due.be("11 custom below", x.district(-1, 1), -1);
        Due.be("11 people 0", x.district(0, 0), -2);
        Due.be("11 people 100", x.district(0, 100), -2);
        for (int i = 0; i < 8; i++) {
            Due.be("11 district", x.district(i % 5, i == 0 ? 1 : 99), i);
        }
        Due.be("11 full", x.district(0, 1), -4);
        Due.be("11 bad ahead of full", x.district(0, 100), -2);
        Due.be("11 none ahead of full", x.district(5, 1), -1);
        Due.be("11 count", x.count(1), 8);
    }

    private static void carried() {
        OneCode x = new OneCode();
        x.district(0, 1);
        x.days(10);
        Due.be("12 none", x.carried(1, 10), -1);
        Due.be("12 none below", x.carried(-1, 10), -1);
        Due.be("12 in the past", x.carried(0, 9), -2);
        Due.be("12 beyond", x.carried(0, 4000), -2);
        Due.be("12 now", x.carried(0, 10), 1);
        Due.be("12 told", x.carried(0, 20), -3);
        Due.be("12 bad ahead of state", x.carried(0, 9), -2);
        x.district(0, 1);
        Due.be("12 the last day", x.carried(1, 3999), 1);
        OneCode y = new OneCode();
        y.district(0, 1);
        Due.be("12 day 0", y.carried(0, 0), 1);
        Due.be("12 told for day 0", y.carried(0, 0), -3);
    }

    private static OneCode lawful() {
        OneCode x = new OneCode();
        Due.custom(x, 0, 0, "to 0");
        Due.custom(x, 1, 0, "to 1");
        Due.rule(x, "holds", 0, 1, 1, 15, 0);
        Due.line(x, 0, "void unless age=3");
        Due.rule(x, "owed 5 if what=2", 5, 5, 0, 0, 0);
        Due.rule(x, "owed 6 if what=2", 5, 5, 1, 30, 0);
        x.district(0, 1);
        x.district(1, 1);
        x.carried(0, 20);
        return x;
    }

    private static void law() {
        OneCode x = lawful();
        int died = Due.sort(2, 0, 0, 0, 0, 0);
        int aged = Due.sort(2, 3, 0, 0, 0, 0);
        Due.be("13 of day 0", x.law(0, died, 0, 0, 0), 200);
        Due.be("13 custom as of f", x.law(0, died, 3, 19, 0), 200);
        Due.be("13 custom as of a later f", x.law(0, died, 15, 19, 0), 1);
        Due.be("13 code on f", x.law(0, died, 20, 20, 0), 0);
        Due.be("13 code's gap", x.law(0, aged, 20, 25, 0), -3);
        Due.be("13 saved as of j", x.law(0, died, 3, 20, 0), 105);
        Due.be("13 saved as of a later j", x.law(0, died, 3, 30, 0), 106);
        Due.be("13 no saved one: custom as of f", x.law(0, 0, 3, 30, 0), 200);
        Due.be("13 no saved one: custom as of a later f", x.law(0, 0, 16, 30, 0), 1);
        Due.be("13 the code is not in force there", x.law(1, died, 25, 30, 0), 201);
        x.days(40);
        Due.rule(x, "to 3", 5, 5, 1, 0, 0);
        Due.be("13 a clash of saved ones", x.law(0, died, 3, 40, 40), -2);
        Due.be("13 known ahead of it", x.law(0, died, 3, 40, 39), 106);
        Due.be("13 no saved one known", x.law(0, 0, 3, 40, 39), 200);
        Due.be("13 saved one known", x.law(0, 0, 3, 40, 40), 203);
    }

    private static void lawRefuses() {
        OneCode x = lawful();
        Due.be("13 district", x.law(2, 0, 0, 0, 0), -5);
        Due.be("13 district below", x.law(-1, 0, 0, 0, 0), -5);
        Due.be("13 sort", x.law(0, 1536, 0, 0, 0), -5);
        Due.be("13 sort below", x.law(0, -1, 0, 0, 0), -5);
        Due.be("13 f below", x.law(0, 0, -1, 0, 0), -5);
        Due.be("13 f behind j", x.law(0, 0, 1, 0, 0), -5);
        Due.be("13 j below", x.law(0, 0, 0, -1, 0), -5);
        Due.be("13 k below", x.law(0, 0, 0, 0, -1), -5);
        Due.be("13 f is j", x.law(0, 0, 3999, 3999, 0), 0);
    }

    private static void deed() {
        OneCode x = lawful();
        Due.be("14 district", x.deed(2, 0), -1);
        Due.be("14 none ahead of bad", x.deed(-1, -1), -1);
        Due.be("14 sort", x.deed(0, 1536), -2);
        Due.be("14 sort below", x.deed(0, -1), -2);
        for (int i = 0; i < 60; i++) {
            Due.be("14 deed", x.deed(i % 2, i), i);
        }
        Due.be("14 full", x.deed(0, 0), -4);
        Due.be("14 bad ahead of full", x.deed(0, -1), -2);
        Due.be("14 count", x.count(12), 60);
    }

    private static void deedEnd() {
        OneCode x = lawful();
        x.days(5);
        x.deed(0, Due.sort(2, 0, 0, 0, 0, 0));
        Due.be("15 on its day", x.deedEnd(0, 5, 5), 200);
        Due.be("15 later", x.deedEnd(0, 20, 0), 105);
        Due.be("15 much later", x.deedEnd(0, 3000, 5), 106);
        Due.be("15 ahead of its day", x.deedEnd(0, 4, 5), -5);
        Due.be("15 k below", x.deedEnd(0, 5, -1), -5);
        Due.be("15 none", x.deedEnd(1, 5, 5), -5);
        Due.be("15 none below", x.deedEnd(-1, 5, 5), -5);
    }

    private static void lost() {
        OneCode x = lawful();
        Due.be("16 none done", x.lost(-1, 0), 0);
        Due.be("16 no first", x.lost(-1, 1), -1);
        x.deed(1, Due.sort(2, 0, 0, 0, 0, 0));
        x.deed(0, Due.sort(1, 0, 0, 0, 0, 0));
        x.deed(0, Due.sort(2, 0, 0, 0, 0, 0));
        x.deed(0, Due.sort(2, 1, 0, 0, 0, 0));
        Due.be("16 on their day", x.lost(-1, 0), 0);
        x.days(20);
        Due.be("16 of all", x.lost(-1, 0), 2);
        Due.be("16 the first of all", x.lost(-1, 1), 2);
        Due.be("16 of one", x.lost(0, 0), 2);
        Due.be("16 the first of one", x.lost(0, 1), 2);
        Due.be("16 of the other", x.lost(1, 0), 0);
        Due.be("16 no first of the other", x.lost(1, 1), -1);
        // What is told later of an earlier day is not known on that day.
        Due.custom(x, 1, 1, "void");
        Due.be("16 told later", x.lost(1, 0), 1);
        Due.be("16 the first then", x.lost(-1, 1), 0);
        Due.be("16 district", x.lost(2, 0), -5);
        Due.be("16 district below", x.lost(-2, 0), -5);
        Due.be("16 what", x.lost(0, 2), -5);
        Due.be("16 what below", x.lost(-1, -1), -5);
    }

    private static void courts() {
        OneCode x = new OneCode();
        Due.be("17 bad", x.courts(3), -2);
        Due.be("17 bad below", x.courts(-1), -2);
        Due.be("17 first", x.courts(1), 2);
        Due.be("17 then", x.courts(0), 1);
        Due.be("17 at last", x.courts(2), 0);
        Due.be("17 as it was", x.courts(2), 2);
    }

    private static void court() {
        OneCode x = lawful();
        x.days(18);
        x.district(0, 5);
        Due.be("18 they are one", x.court(0, 2, 0, 3), 200);
        Due.be("18 it says nothing", x.court(0, 1, 0, 3), -4);
        x.courts(0);
        Due.be("18 of the first", x.court(0, 1, 0, 3), 200);
        Due.be("18 of the first, turned", x.court(1, 0, 0, 3), 201);
        x.courts(1);
        Due.be("18 of the second", x.court(0, 1, 0, 3), 201);
        Due.be("18 judged now", x.court(2, 0, Due.sort(2, 0, 0, 0, 0, 0), 16), 1);
        x.days(2);
        Due.be("18 judged later", x.court(2, 0, Due.sort(2, 0, 0, 0, 0, 0), 16), 105);
        Due.be("18 of the day", x.court(2, 0, Due.sort(2, 0, 0, 0, 0, 0), 20), 0);
        Due.be("18 first", x.court(3, 0, 0, 0), -5);
        Due.be("18 second", x.court(0, -1, 0, 0), -5);
        Due.be("18 sort", x.court(0, 1, 1536, 0), -5);
        Due.be("18 f below", x.court(0, 1, 0, -1), -5);
        Due.be("18 f behind now", x.court(0, 1, 0, 21), -5);
        OneCode y = new OneCode();
        y.district(0, 1);
        y.district(1, 1);
        Due.be("18 two gaps are one", y.court(0, 1, 0, 0), -3);
    }

    private static void unlike() {
        OneCode x = new OneCode();
        Due.be("19 two empty ones", x.unlike(0, 1, 0), 0);
        Due.be("19 no least", x.unlike(0, 1, 1), -1);
        Due.be("19 no fields", x.unlike(0, 1, 2), -1);
        Due.custom(x, 0, 0, "void");
        Due.be("19 against a gap", x.unlike(0, 1, 0), 1536);
        Due.be("19 the least", x.unlike(0, 1, 1), 0);
        Due.be("19 no field is needed", x.unlike(1, 0, 2), 0);
        Due.custom(x, 1, 0, "void");
        Due.custom(x, 1, 0, "holds if goods=3 and oath=1");
        Due.be("19 against a clash", x.unlike(0, 1, 0), 192);
        Due.be("19 the least of these", x.unlike(0, 1, 1), 7);
        Due.be("19 two fields", x.unlike(0, 1, 2), 48);
        Due.line(x, 0, "void");
        Due.rule(x, "holds", 5, 5, 9, 0, 0);
        Due.be("19 lines of the code", x.unlike(0, 5, 0), 0);
        Due.be("19 a body and itself", x.unlike(1, 1, 0), 0);
        Due.rule(x, "to 3", 0, 1, 1, 1, 0);
        Due.be("19 not yet", x.unlike(0, 5, 0), 0);
        x.days(1);
        Due.be("19 as of now", x.unlike(0, 5, 0), 1536);
        int[][] bad = {{-1, 0, 0}, {6, 0, 0}, {0, -1, 0}, {0, 6, 0}, {0, 0, -1}, {0, 0, 3}};
        for (int[] b : bad) {
            Due.be("19 none such", x.unlike(b[0], b[1], b[2]), -5);
        }
    }

    private static void wrong() {
        OneCode x = new OneCode();
        Due.be("20 all gaps", x.wrong(2, 1, 0), 1536);
        Due.be("20 all gaps, least", x.wrong(2, 1, 1), 0);
        Due.be("20 of the first custom", x.wrong(0, 1, 0), 1536);
        Due.be("20 all gaps, fields", x.wrong(2, 1, 2), 0);
        Due.be("20 no clash", x.wrong(2, 0, 0), 0);
        Due.be("20 no clash, least", x.wrong(2, 0, 1), -1);
        Due.be("20 no clash, fields", x.wrong(2, 0, 2), -1);
        Due.custom(x, 2, 0, "void if house=1");
        Due.custom(x, 2, 0, "holds if kids=2");
        Due.be("20 clashes", x.wrong(2, 0, 0), 128);
        Due.be("20 the least clash", x.wrong(2, 0, 1), Due.sort(0, 0, 1, 2, 0, 0));
        Due.be("20 its fields", x.wrong(2, 0, 2), 12);
        Due.be("20 gaps", x.wrong(2, 1, 0), 4 * 4 * 2 * 3 * 2 * 4);
        Due.be("20 the least gap", x.wrong(2, 1, 1), 0);
        Due.be("20 its fields", x.wrong(2, 1, 2), 12);
        Due.rule(x, "void", 5, 5, 0, 0, 0);
        Due.be("20 lines alone", x.wrong(5, 1, 0), 1536);
        int[][] bad = {{-1, 0, 0}, {6, 0, 0}, {0, -1, 0}, {0, 2, 0}, {0, 0, -1}, {0, 0, 3}};
        for (int[] b : bad) {
            Due.be("20 none such", x.wrong(b[0], b[1], b[2]), -5);
        }
    }

    /** Two ways to show the least sort: the one of fewer fields, and of two such that of the least bits. */
    private static void fewestFields() {
        OneCode x = new OneCode();
        Due.custom(x, 0, 0, "void if what=0 and age=0 or goods=0");
        Due.be("19 fewer fields", x.unlike(0, 1, 2), 32);
        Due.custom(x, 2, 0, "void if oath=0 or house=0");
        Due.be("19 least bits", x.unlike(2, 1, 2), 4);
        Due.custom(x, 3, 0, "void if what=1 and age=1 and house=1 and kids=1 and oath=1");
        Due.be("19 five fields", x.unlike(3, 1, 2), 31);
        Due.be("19 its sort", x.unlike(3, 1, 1), Due.sort(1, 1, 1, 1, 1, 0));
    }
}
