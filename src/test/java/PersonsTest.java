/** Promises 28 to 33: persons, and how the goods of the dead are parted. */
public final class PersonsTest {
    public static void main(String[] args) {
        person();
        goes();
        dieBySort();
        dieByEnds();
        dieByWays();
        dieWithoutHeirs();
        quarrelled();
        settledLater();
        personOf();
        chest();
        lawOfTheDay();
        Due.end();
    }

    /** District 0 under custom 0, which answers everything by one END. */
    private static OneCode under(String end) {
        OneCode x = new OneCode();
        x.district(0, 1);
        x.district(1, 1);
        if (!end.isEmpty()) {
            Due.custom(x, 0, 0, end);
        }
        return x;
    }

    private static void coins(OneCode x, String call, int... due) {
        for (int p = 0; p < due.length; p++) {
            Due.be(call + ", coins of " + p, x.personOf(p, 2), due[p]);
        }
    }

    private static void person() {
        OneCode x = under("");
        Due.be("28 district", x.person(2, -1, 9, 9, 9, -9), -1);
        Due.be("28 district below", x.person(-1, -1, 0, 0, 0, 0), -1);
        Due.be("28 parent", x.person(0, 0, 0, 0, 0, 0), -1);
        Due.be("28 parent below", x.person(0, -2, 0, 0, 0, 0), -1);
        int[][] bad = {{-1, 0, 0, 0}, {4, 0, 0, 0}, {0, -1, 0, 0}, {0, 3, 0, 0}, {0, 0, -1, 0}, {0, 0, 2, 0},
            {0, 0, 0, -1}, {0, 0, 0, 10000}};
        for (int[] b : bad) {
            Due.be("28 bad", x.person(0, -1, b[0], b[1], b[2], b[3]), -2);
        }
        Due.be("28 none came", x.count(3), 0);
        for (int i = 0; i < 30; i++) {
            Due.be("28 person", x.person(i % 2, i - 1, i % 4, i % 3, i % 2, 9999), i);
        }
        Due.be("28 full", x.person(0, -1, 0, 0, 0, 0), -4);
        Due.be("28 bad ahead of full", x.person(0, -1, 4, 0, 0, 0), -2);
        Due.be("28 none ahead of full", x.person(0, 30, 0, 0, 0, 0), -1);
        Due.be("28 all live", x.count(4), 30);
        Due.be("28 all coins", x.chest(-1), 30 * 9999);
    }

    private static void goes() {
        OneCode x = under("void");
        x.person(0, -1, 0, 0, 0, 10);
        Due.be("29 person", x.goes(1, 0), -1);
        Due.be("29 person below", x.goes(-1, 0), -1);
        Due.be("29 district", x.goes(0, 2), -1);
        Due.be("29 district below", x.goes(0, -1), -1);
        Due.be("29 goes", x.goes(0, 1), 0);
        Due.be("29 stays", x.goes(0, 1), 1);
        Due.be("29 is there", x.personOf(0, 0), 1);
        Due.be("29 by the law of there", x.die(0), -3);
        Due.be("29 quarrelled over", x.goes(0, 0), -3);
        x.person(0, -1, 0, 0, 0, 10);
        x.die(1);
        Due.be("29 dead", x.goes(1, 0), -3);
        Due.be("29 none ahead of state", x.goes(1, 2), -1);
        Due.be("29 where it died", x.personOf(1, 0), 0);
    }

    private static void dieBySort() {
        OneCode x = under("void");
        x.person(0, -1, 3, 2, 1, 99);
        x.person(0, -1, 1, 0, 0, 100);
        x.person(0, -1, 0, 1, 1, 299);
        x.person(0, -1, 2, 2, 0, 9999);
        for (int i = 0; i < 4; i++) {
            x.person(1, 3, 0, 0, 0, 0);
        }
        x.person(1, 2, 0, 0, 0, 0);
        x.person(1, 2, 0, 0, 0, 0);
        for (int p = 0; p < 4; p++) {
            Due.be("30 no sort yet", x.personOf(p, 4), -1);
            Due.be("30 dies", x.die(p), 0);
        }
        Due.be("30 goods 0", x.personOf(0, 4), Due.sort(2, 3, 2, 0, 1, 0));
        Due.be("30 goods 1", x.personOf(1, 4), Due.sort(2, 1, 0, 0, 0, 1));
        Due.be("30 goods 2, kids 2", x.personOf(2, 4), Due.sort(2, 0, 1, 2, 1, 2));
        Due.be("30 three at most", x.personOf(3, 4), Due.sort(2, 2, 2, 3, 0, 3));
        Due.be("30 none", x.die(10), -1);
        Due.be("30 none below", x.die(-1), -1);
        Due.be("30 it did", x.die(0), -3);
        OneCode y = under("void");
        y.person(0, -1, 0, 0, 0, 0);
        y.person(0, 0, 0, 0, 0, 0);
        y.person(0, 0, 0, 0, 0, 0);
        y.die(1);
        y.die(0);
        Due.be("30 living children alone", y.personOf(0, 4), Due.sort(2, 0, 0, 1, 0, 0));
    }

    /** A parent, the one that dies (1, with coins), and so many children. */
    private static OneCode family(String end, int coins, int children) {
        OneCode x = under(end);
        x.person(1, -1, 0, 0, 0, 0);
        x.person(0, 0, 0, 0, 0, coins);
        for (int i = 0; i < children; i++) {
            x.person(1, 1, 0, 0, 0, 0);
        }
        return x;
    }

    private static void dieByEnds() {
        OneCode x = family("void", 55, 2);
        Due.be("30 void", x.die(1), 0);
        coins(x, "30 void", 0, 0, 0, 0);
        Due.be("30 void, chest", x.chest(0), 55);
        x = family("holds", 11, 3);
        Due.be("30 holds", x.die(1), 1);
        coins(x, "30 holds", 0, 0, 4, 4, 3);
        Due.be("30 holds, chest", x.chest(0), 0);
        x = family("owed 30", 199, 3);
        Due.be("30 owed", x.die(1), 130);
        coins(x, "30 owed", 0, 0, 47, 47, 46);
        Due.be("30 owed, chest", x.chest(0), 59);
        x = family("owed 0", 5, 1);
        Due.be("30 owed nothing", x.die(1), 100);
        coins(x, "30 owed nothing", 0, 0, 5);
        x = family("owed 99", 9999, 1);
        Due.be("30 owed most", x.die(1), 199);
        coins(x, "30 owed most", 0, 0, 100);
        Due.be("30 owed most, chest", x.chest(0), 9899);
    }

    private static void dieByWays() {
        OneCode x = family("to 0", 10, 3);
        x.die(2);
        Due.be("30 to 0", x.die(1), 200);
        coins(x, "30 to 0, the eldest that lives", 0, 0, 0, 10, 0);
        x = family("to 1", 11, 4);
        x.die(3);
        Due.be("30 to 1", x.die(1), 201);
        coins(x, "30 to 1", 0, 0, 4, 0, 4, 3);
        x = family("to 2", 10, 3);
        Due.be("30 to 2", x.die(1), 202);
        coins(x, "30 to 2", 10, 0, 0, 0, 0);
        x = family("to 2", 10, 3);
        x.die(0);
        Due.be("30 to 2, no parent lives", x.die(1), 202);
        coins(x, "30 to 2, no parent lives", 0, 0, 0, 0, 0);
        Due.be("30 to 2, chest", x.chest(0), 10);
        x = family("to 3", 11, 3);
        Due.be("30 to 3", x.die(1), 203);
        coins(x, "30 to 3", 0, 0, 5, 3, 3);
        x = family("to 3", 12, 4);
        Due.be("30 to 3, three others", x.die(1), 203);
        coins(x, "30 to 3, three others", 0, 0, 6, 2, 2, 2);
        x = family("to 3", 11, 1);
        Due.be("30 to 3, one child", x.die(1), 203);
        coins(x, "30 to 3, one child", 0, 0, 11);
        Due.be("30 to 3, chest", x.chest(0), 0);
    }

    private static void dieWithoutHeirs() {
        String[] ends = {"holds", "owed 30", "to 0", "to 1", "to 3"};
        for (String end : ends) {
            OneCode x = family(end, 199, 0);
            x.die(1);
            Due.be("30 nobody by " + end, x.chest(0), 199);
            Due.be("30 nobody by " + end + ", coins", x.personOf(1, 2), 0);
            Due.be("30 nobody by " + end + ", other chest", x.chest(1), 0);
        }
        OneCode x = under("to 2");
        x.person(0, -1, 0, 0, 0, 7);
        x.die(0);
        Due.be("30 no parent at all", x.chest(0), 7);
    }

    private static void quarrelled() {
        OneCode x = family("", 10, 2);
        Due.be("30 a gap", x.die(1), -3);
        Due.be("30 quarrelled", x.personOf(1, 3), 2);
        Due.be("30 it lives no more", x.count(4), 3);
        Due.be("30 count", x.count(5), 1);
        coins(x, "30 the coins stay", 0, 10, 0, 0);
        Due.be("30 dies once", x.die(1), -3);
        Due.be("31 a gap still", x.settle(1), -3);
        Due.be("31 still quarrelled", x.personOf(1, 3), 2);
        Due.custom(x, 0, 0, "to 1");
        Due.custom(x, 0, 0, "to 0");
        Due.be("31 a clash now", x.settle(1), -2);
        coins(x, "31 nothing is changed", 0, 10, 0, 0);
        x.strike(2, 0);
        x.strike(0, 0);
        Due.be("31 settled", x.settle(1), 200);
        coins(x, "31 settled", 0, 0, 10, 0);
        Due.be("31 dead", x.personOf(1, 3), 1);
        Due.be("31 count", x.count(5), 0);
        Due.be("31 once", x.settle(1), -3);
        Due.be("31 a living one", x.settle(0), -3);
        Due.be("31 none", x.settle(4), -1);
        Due.be("31 none below", x.settle(-1), -1);
        OneCode y = family("void", 10, 0);
        Due.custom(y, 0, 0, "holds");
        Due.be("30 a clash", y.die(1), -2);
        Due.be("30 a clash, quarrelled", y.personOf(1, 3), 2);
    }

    /** Settled by the law and among the living of the day on which it is settled, by its sort of old. */
    private static void settledLater() {
        OneCode x = family("", 120, 2);
        Due.be("31 dies", x.die(1), -3);
        Due.rule(x, "to 1 if kids=2 and goods=1", 0, 1, 0, 9, 0);
        Due.be("31 not yet in force", x.settle(1), -3);
        Due.custom(x, 1, 0, "void");
        x.die(2);
        x.days(9);
        Due.be("31 in force on the day", x.settle(1), 201);
        coins(x, "31 among those that live then", 0, 0, 0, 120);
        Due.be("31 its sort as it was", x.personOf(1, 4), Due.sort(2, 0, 0, 2, 0, 1));
        OneCode y = family("", 10, 0);
        y.die(1);
        y.days(5);
        y.carried(0, 5);
        Due.rule(y, "holds", 5, 5, 0, 0, 0);
        Due.be("31 facts of now: no saved one", y.settle(1), -3);
        Due.line(y, 0, "void");
        Due.be("31 facts of now: lines", y.settle(1), 0);
        Due.be("31 chest", y.chest(0), 10);
    }

    private static void personOf() {
        OneCode x = family("void", 10, 2);
        int[] want = {0, 0, 10, 0, -1, 2};
        for (int what = 0; what < 6; what++) {
            Due.be("32 what " + what, x.personOf(1, what), want[what]);
        }
        Due.be("32 where it is", x.personOf(2, 0), 1);
        Due.be("32 no parent", x.personOf(0, 1), -1);
        Due.be("32 what below", x.personOf(1, -1), -5);
        Due.be("32 what above", x.personOf(1, 6), -5);
        Due.be("32 none", x.personOf(4, 0), -5);
        Due.be("32 none below", x.personOf(-1, 0), -5);
        x.die(1);
        int[] dead = {0, 0, 0, 1, Due.sort(2, 0, 0, 2, 0, 0), 2};
        for (int what = 0; what < 6; what++) {
            Due.be("32 of the dead " + what, x.personOf(1, what), dead[what]);
        }
        Due.custom(x, 1, 0, "void");
        x.die(2);
        Due.be("32 children that live", x.personOf(1, 5), 1);
    }

    private static void chest() {
        OneCode x = family("void", 10, 1);
        Due.be("33 empty", x.chest(0), 0);
        Due.be("33 all", x.chest(-1), 10);
        x.die(1);
        x.person(0, -1, 0, 0, 0, 5);
        x.die(3);
        Due.be("33 of one", x.chest(0), 15);
        Due.be("33 of the other", x.chest(1), 0);
        Due.be("33 all still", x.chest(-1), 15);
        Due.be("33 none", x.chest(2), -5);
        Due.be("33 none below", x.chest(-2), -5);
    }

    private static void lawOfTheDay() {
        OneCode x = family("holds", 10, 1);
        x.carried(0, 4);
        Due.line(x, 0, "to 2");
        x.days(3);
        x.person(0, 1, 0, 0, 0, 3);
        Due.be("30 by the custom", x.die(3), 1);
        x.days(1);
        Due.be("30 by the code", x.die(1), 202);
        coins(x, "30 by the code", 10, 0, 0, 0);
        Due.be("30 what it did not leave", x.chest(0), 3);
    }
}
