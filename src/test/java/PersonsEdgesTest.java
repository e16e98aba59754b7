/** The boundary cases of promises 28 to 33 and of part 4 of the Terms: each sentence has a test of its own. */
public final class PersonsEdgesTest {
    private static final int NONE = -1, BAD = -2, STATE = -3, FULL = -4;
    private static final int CLASH = -2, GAP = -3;
    private static final int LOW = Integer.MIN_VALUE, HIGH = Integer.MAX_VALUE;

    public static void main(String[] args) throws Exception {
        Each.run(PersonsEdgesTest.class);
    }

    private static OneCode fullOfPersons() {
        OneCode x = World.rich();
        for (int p = 7; p < 30; p++) {
            Due.be("person " + p, x.person(p % 3, p - 1, p % 4, p % 3, p % 2, p), p);
        }
        return x;
    }

    /** Districts 0 under custom 0, that answers by one END alone ("": nothing), and 1 under custom 1, that is VOID. */
    private static OneCode under(String end) {
        OneCode x = new OneCode();
        x.district(0, 1);
        x.district(1, 1);
        Due.custom(x, 1, 0, "void");
        if (!end.isEmpty()) {
            Due.be("the law", Due.custom(x, 0, 0, end), 1);
        }
        return x;
    }

    /** Number 0 is the parent, 1 has the coins, from 2 on its children; all but 1 have nothing and are of district 1. */
    private static OneCode family(String end, int coins, int children) {
        OneCode x = under(end);
        Due.be("parent", x.person(1, -1, 0, 0, 0, 0), 0);
        Due.be("one with coins", x.person(0, 0, 0, 0, 0, coins), 1);
        for (int i = 0; i < children; i++) {
            Due.be("child", x.person(1, 1, 0, 0, 0, 0), 2 + i);
        }
        return x;
    }

    /** What everyone has then, and at last the chest of district 0. */
    private static void parted(String what, OneCode x, int... due) {
        int last = due.length - 1;
        for (int p = 0; p < last; p++) {
            Due.be(what + ": coins of " + p, x.personOf(p, 2), due[p]);
        }
        Due.be(what + ": the chest", x.chest(0), due[last]);
        Due.be(what + ": no other chest", x.chest(1), 0);
    }

    private static OneCode dead(String end, int coins, int children) {
        OneCode x = family(end, coins, children);
        int all = x.chest(-1);
        x.die(1);
        Due.be("no coin is lost", x.chest(-1), all);
        return x;
    }

    // ---- person

    /** Promise 28: "NONE: district, parent (-1: none); BAD; FULL" - NONE: district. */
    static void personOfNoDistrict() {
        Still.rich("person none", x -> {
            for (int d : new int[] {-1, LOW, 3, 7, 8, HIGH}) {
                Due.be("district " + d, x.person(d, -1, 0, 0, 0, 0), NONE);
                Due.be("none ahead of bad", x.person(d, -1, 4, 3, 2, -1), NONE);
            }
        });
    }

    /** Promise 28: "parent (-1: none)"; Terms 4: "a parent (or none)" */
    static void personOfNoParent() {
        Still.rich("person no such parent", x -> {
            for (int parent : new int[] {-2, LOW, 7, 8, 29, 30, HIGH}) {
                Due.be("parent " + parent, x.person(0, parent, 0, 0, 0, 0), NONE);
                Due.be("none ahead of bad", x.person(0, parent, -1, 0, 0, 0), NONE);
            }
        });
        OneCode x = under("");
        Due.be("its own parent", x.person(0, 0, 0, 0, 0, 0), NONE);
        Due.be("without a parent", x.person(0, -1, 0, 0, 0, 0), 0);
        Due.be("it has none", x.personOf(0, 1), -1);
        Due.be("of the first", x.person(0, 0, 0, 0, 0, 0), 1);
        Due.be("it is the first", x.personOf(1, 1), 0);
        Due.be("its own parent again", x.person(0, 2, 0, 0, 0, 0), NONE);
    }

    /** Promise 28: "BAD; FULL" - BAD: age, house, oath; Terms 1: "1 age (0 .. 3), 2 house (0 .. 2)" and "4 oath (0, 1)" */
    static void personOfNoSuchFacts() {
        Still.rich("person bad facts", x -> {
            for (int n : new int[] {-1, LOW, 4, HIGH}) {
                Due.be("age " + n, x.person(0, -1, n, 0, 0, 0), BAD);
            }
            for (int n : new int[] {-1, LOW, 3, HIGH}) {
                Due.be("house " + n, x.person(0, -1, 0, n, 0, 0), BAD);
            }
            for (int n : new int[] {-1, LOW, 2, HIGH}) {
                Due.be("oath " + n, x.person(0, -1, 0, 0, n, 0), BAD);
            }
        });
        OneCode x = under("void");
        Due.be("least of all", x.person(0, -1, 0, 0, 0, 0), 0);
        Due.be("most of all", x.person(0, -1, 3, 2, 1, 9999), 1);
        x.die(0);
        x.die(1);
        Due.be("least", x.personOf(0, 4), Due.sort(2, 0, 0, 0, 0, 0));
        Due.be("most", x.personOf(1, 4), Due.sort(2, 3, 2, 0, 1, 3));
    }

    /** Promise 28: "BAD" - COINS; Terms 4: "COINS (0 .. 9999)" */
    static void personOfTooFewOrTooManyCoins() {
        Still.rich("person bad coins", x -> {
            for (int n : new int[] {-1, LOW, 10000, HIGH}) {
                Due.be("coins " + n, x.person(0, -1, 0, 0, 0, n), BAD);
            }
        });
        OneCode x = under("");
        Due.be("no coins", x.person(0, -1, 0, 0, 0, 0), 0);
        Due.be("most coins", x.person(0, -1, 0, 0, 0, 9999), 1);
        Due.be("none", x.personOf(0, 2), 0);
        Due.be("most", x.personOf(1, 2), 9999);
    }

    /** Promise 28: "FULL" */
    static void personsFull() {
        Still.after("persons full", PersonsEdgesTest::fullOfPersons, x -> {
            Due.be("one more", x.person(0, -1, 0, 0, 0, 0), FULL);
            Due.be("one more of the last", x.person(0, 29, 0, 0, 0, 0), FULL);
            Due.be("bad ahead of full", x.person(0, -1, 0, 0, 0, -1), BAD);
            Due.be("none ahead of full, district", x.person(3, -1, 0, 0, 0, 0), NONE);
            Due.be("none ahead of full, parent", x.person(0, 30, 0, 0, 0, 0), NONE);
        });
    }

    /** Terms 4: "PERSONS 0 .. 29, as they come" */
    static void theLastPerson() {
        OneCode x = fullOfPersons();
        Due.be("all", x.count(3), 30);
        Due.be("its parent", x.personOf(29, 1), 28);
        Due.be("its coins", x.personOf(29, 2), 29);
        Due.be("it goes", x.goes(29, 1), 2);
        Due.be("it dies", x.die(29), CLASH);
        Due.be("quarrelled over", x.settle(29), CLASH);
        Due.be("none behind it", x.personOf(30, 0), -5);
        Due.be("none behind it goes", x.goes(30, 0), NONE);
        Due.be("none behind it dies", x.die(30), NONE);
        Due.be("none behind it is settled", x.settle(30), NONE);
    }

    // ---- goes, die, settle

    /** Promise 29: "where it was. NONE; STATE: it lives no more" - NONE. */
    static void goesNone() {
        Still.rich("goes none", x -> {
            for (int p : new int[] {-1, LOW, 7, 29, 30, HIGH}) {
                Due.be("goes(" + p + ", 1)", x.goes(p, 1), NONE);
            }
            for (int d : new int[] {-1, LOW, 3, 7, 8, HIGH}) {
                Due.be("goes(0, " + d + ")", x.goes(0, d), NONE);
                Due.be("none ahead of state", x.goes(6, d), NONE);
            }
        });
    }

    /** Promise 29: "STATE: it lives no more" */
    static void goesNoMore() {
        Still.rich("goes state", x -> {
            for (int p : new int[] {3, 5, 6}) {
                for (int d = 0; d <= 2; d++) {
                    Due.be("goes(" + p + ", " + d + ")", x.goes(p, d), STATE);
                }
            }
        });
    }

    /** Promise 29: "A living PERSON goes to a DISTRICT: where it was" - also to where it is. */
    static void goesWhereItIs() {
        Still.rich("goes where it is", x -> Due.be("goes(0, 0)", x.goes(0, 0), 0));
        OneCode x = World.rich();
        Due.be("to the last", x.goes(0, 2), 0);
        Due.be("to the first", x.goes(0, 0), 2);
    }

    /** Promise 29: "A living PERSON goes to a DISTRICT: where it was." - it alone goes, and all else of it stays. */
    static void goesAlone() {
        OneCode x = World.rich();
        Due.be("the child goes", x.goes(1, 2), 0);
        int[] due = {2, 0, 50, 0, -1, 1};
        for (int what = 0; what < due.length; what++) {
            Due.be("personOf(1, " + what + ")", x.personOf(1, what), due[what]);
        }
        Due.be("not its parent", x.personOf(0, 0), 0);
        Due.be("not its brother", x.personOf(2, 0), 0);
        Due.be("not its child", x.personOf(4, 0), 0);
        Due.be("still its parent's child", x.personOf(0, 5), 2);
        Due.be("again", x.goes(1, 1), 2);
        Due.be("it is there", x.personOf(1, 0), 1);
    }

    /** Promise 30: "the ANSWER. NONE; STATE: it did" - NONE. */
    static void dieNone() {
        Still.rich("die none", x -> {
            for (int p : new int[] {-1, LOW, 7, 29, 30, HIGH}) {
                Due.be("die(" + p + ")", x.die(p), NONE);
            }
        });
    }

    /** Promise 30: "STATE: it did" */
    static void dieTwice() {
        Still.rich("die state", x -> {
            for (int p : new int[] {3, 5, 6}) {
                Due.be("die(" + p + ")", x.die(p), STATE);
            }
        });
        for (String end : new String[] {"void", ""}) {
            OneCode x = family(end, 150, 2);
            x.die(1);
            x.goes(2, 0);
            x.die(2);
            Due.be("once more, with fewer children", x.die(1), STATE);
            Due.be("its sort is as it was", x.personOf(1, 4), Due.sort(2, 0, 0, 2, 0, 1));
        }
    }

    /** Promise 31: "NONE; STATE: it is not so" - NONE. */
    static void settleNone() {
        Still.rich("settle none", x -> {
            for (int p : new int[] {-1, LOW, 7, 29, 30, HIGH}) {
                Due.be("settle(" + p + ")", x.settle(p), NONE);
            }
        });
    }

    /** Promise 31: "STATE: it is not so" */
    static void settleOfNoQuarrel() {
        Still.rich("settle state", x -> {
            for (int p : new int[] {0, 1, 2, 4, 6}) {
                Due.be("settle(" + p + ")", x.settle(p), STATE);
            }
        });
        OneCode x = dead("", 10, 0);
        Due.be("a rule comes", Due.custom(x, 0, 0, "void"), 1);
        Due.be("settled", x.settle(1), 0);
        Due.be("settled once", x.settle(1), STATE);
        Due.be("the coins went once", x.chest(0), 10);
    }

    /** Promise 31: "(if that is a CLASH or GAP still, nothing is changed)" */
    static void settleOfAQuarrelStill() {
        Still.rich("settle still", x -> {
            Due.be("a clash still", x.settle(3), CLASH);
            Due.be("a gap still", x.settle(5), GAP);
            Due.be("a clash still", x.settle(3), CLASH);
        });
        // Nor when more days have come and fewer children live than when one died.
        OneCode x = dead("", 150, 2);
        x.days(1);
        Due.be("a child dies", x.die(2), 0);
        Due.be("a gap still", x.settle(1), GAP);
        Due.be("its sort is as it was", x.personOf(1, 4), Due.sort(2, 0, 0, 2, 0, 1));
        Due.be("quarrelled still", x.personOf(1, 3), 2);
        parted("unsettled", x, 0, 150, 0, 0, 0);
        Due.be("a clash comes", Due.custom(x, 0, 0, "void if kids=2"), 1);
        Due.be("a clash comes", Due.custom(x, 0, 0, "to 0 if kids=2"), 2);
        Due.be("a clash now", x.settle(1), CLASH);
        Due.be("its sort is as it was", x.personOf(1, 4), Due.sort(2, 0, 0, 2, 0, 1));
        Due.be("quarrelled still", x.personOf(1, 3), 2);
        parted("unsettled", x, 0, 150, 0, 0, 0);
    }

    // ---- the dead

    /** Terms 4: "kids its living children, 3 at most" */
    static void kidsThreeAtMost() {
        int[] due = {0, 1, 2, 3, 3, 3};
        for (int children = 0; children <= 5; children++) {
            OneCode x = dead("void", 0, children);
            Due.be(children + " children", x.personOf(1, 4), Due.sort(2, 0, 0, due[children], 0, 0));
        }
        OneCode x = family("void", 0, 4);
        x.die(2);
        x.die(3);
        x.die(1);
        Due.be("two of four live", x.personOf(1, 4), Due.sort(2, 0, 0, 2, 0, 0));
        OneCode y = family("", 0, 1);
        y.goes(2, 0);
        y.die(2);
        y.die(1);
        Due.be("one quarrelled over lives no more", y.personOf(1, 4), Due.sort(2, 0, 0, 0, 0, 0));
    }

    /** Terms 4: "goods COINS by 100, cut, 3 at most" */
    static void goodsThreeAtMost() {
        int[] coins = {0, 1, 99, 100, 199, 200, 299, 300, 399, 400, 9999};
        int[] due = {0, 0, 0, 1, 1, 2, 2, 3, 3, 3, 3};
        for (int i = 0; i < coins.length; i++) {
            OneCode x = dead("void", coins[i], 0);
            Due.be(coins[i] + " coins", x.personOf(1, 4), Due.sort(2, 0, 0, 0, 0, due[i]));
        }
    }

    /** Terms 4: "VOID: all to the CHEST" */
    static void voidToTheChest() {
        parted("void", dead("void", 9999, 2), 0, 0, 0, 0, 9999);
        parted("void of nothing", dead("void", 0, 2), 0, 0, 0, 0, 0);
        parted("void of one", dead("void", 1, 0), 0, 0, 1);
    }

    /** Terms 4: "OWED n: n of 100, cut, to the CHEST, the rest as way 1" */
    static void owedIsCut() {
        parted("none of all", dead("owed 0", 199, 1), 0, 0, 199, 0);
        parted("one of 99 is cut to none", dead("owed 1", 99, 1), 0, 0, 99, 0);
        parted("one of 100", dead("owed 1", 100, 1), 0, 0, 99, 1);
        parted("one of 199", dead("owed 01", 199, 1), 0, 0, 198, 1);
        parted("99 of 1 is cut to none", dead("owed 99", 1, 1), 0, 0, 1, 0);
        parted("99 of 100", dead("owed 99", 100, 1), 0, 0, 1, 99);
        parted("99 of the most", dead("owed 99", 9999, 1), 0, 0, 100, 9899);
        parted("half of three", dead("owed 50", 3, 1), 0, 0, 2, 1);
        parted("of nothing", dead("owed 50", 0, 1), 0, 0, 0, 0);
        parted("the rest to two", dead("owed 10", 17, 2), 0, 0, 8, 8, 1);
    }

    /** Terms 4: "HOLDS: as way 1" */
    static void holdsAsWayOne() {
        parted("holds", dead("holds", 8, 3), 0, 0, 3, 3, 2, 0);
        parted("holds of nothing", dead("holds", 0, 3), 0, 0, 0, 0, 0, 0);
        parted("holds for nobody", dead("holds", 8, 0), 0, 0, 8);
    }

    /** Terms 4: "GOES way 0: all to the eldest living child (the least number)" */
    static void allToTheEldestThatLives() {
        parted("the first", dead("to 0", 9, 3), 0, 0, 9, 0, 0, 0);
        OneCode x = family("to 0", 9, 3);
        x.die(2);
        x.die(1);
        parted("the second, as the first is dead", x, 0, 0, 0, 9, 0, 0);
        OneCode y = family("to 0", 9, 3);
        y.die(2);
        y.die(3);
        y.die(1);
        parted("the last", y, 0, 0, 0, 0, 9, 0);
    }

    /** Terms 4: "1: to all living children evenly, coins left over 1 each by numbers" */
    static void coinsLeftOver() {
        parted("none left over", dead("to 1", 9, 3), 0, 0, 3, 3, 3, 0);
        parted("one left over", dead("to 1", 10, 3), 0, 0, 4, 3, 3, 0);
        parted("two left over", dead("to 1", 11, 3), 0, 0, 4, 4, 3, 0);
        parted("fewer coins than children", dead("to 1", 2, 3), 0, 0, 1, 1, 0, 0);
        parted("no coins", dead("to 1", 0, 3), 0, 0, 0, 0, 0, 0);
        parted("one child", dead("to 1", 9, 1), 0, 0, 9, 0);
        OneCode x = family("to 1", 11, 4);
        x.die(3);
        x.die(1);
        parted("living ones alone", x, 0, 0, 4, 0, 4, 3, 0);
    }

    /** Terms 4: "PERSONS 0 .. 29" and "1: to all living children evenly, coins left over 1 each by numbers" - the most children. */
    static void theMostChildren() {
        OneCode x = dead("to 1", 9999, 28);
        for (int child = 0; child < 28; child++) {
            Due.be("child " + child, x.personOf(2 + child, 2), child < 3 ? 358 : 357);
        }
        Due.be("kids", x.personOf(1, 4), Due.sort(2, 0, 0, 3, 0, 3));
        OneCode y = dead("to 3", 9999, 28);
        Due.be("half to the eldest", y.personOf(2, 2), 4999);
        for (int child = 1; child < 28; child++) {
            Due.be("child " + child, y.personOf(2 + child, 2), child <= 5 ? 186 : 185);
        }
        for (String end : new String[] {"to 0", "to 1", "to 2", "to 3", "holds", "owed 99"}) {
            OneCode z = family(end, 5, 28);
            z.goes(29, 0);
            int due = z.die(29);
            Due.be("the last of thirty, without children by " + end, z.personOf(29, 3), 1);
            Due.be("all are there", z.chest(-1), 5);
            Due.hold("an end", due >= 0);
        }
    }

    /** Terms 4: "2: to its parent, if that lives" */
    static void toAParentThatLives() {
        parted("it lives", dead("to 2", 9, 1), 9, 0, 0, 0);
        OneCode x = family("to 2", 9, 1);
        x.die(0);
        x.die(1);
        parted("it is dead", x, 0, 0, 0, 9);
        OneCode y = family("to 2", 9, 1);
        y.person(0, -1, 0, 0, 0, 7);
        y.die(3);
        parted("it has none", y, 0, 9, 0, 0, 7);
        OneCode z = under("to 2");
        z.district(2, 1);
        z.person(2, -1, 0, 0, 0, 5);
        z.person(0, 0, 0, 0, 0, 9);
        Due.be("quarrelled over", z.die(0), GAP);
        z.die(1);
        parted("it is quarrelled over", z, 5, 0, 9);
    }

    /** Terms 4: "3: half, cut, to the eldest, the rest to the others as in way 1 (without others all to the eldest)" */
    static void halfToTheEldest() {
        parted("even", dead("to 3", 8, 2), 0, 0, 4, 4, 0);
        parted("odd, cut", dead("to 3", 9, 2), 0, 0, 4, 5, 0);
        parted("the rest to two", dead("to 3", 9, 3), 0, 0, 4, 3, 2, 0);
        parted("one coin", dead("to 3", 1, 3), 0, 0, 0, 1, 0, 0);
        parted("no coin", dead("to 3", 0, 3), 0, 0, 0, 0, 0, 0);
        parted("without others", dead("to 3", 9, 1), 0, 0, 9, 0);
        OneCode x = family("to 3", 9, 2);
        x.die(3);
        x.die(1);
        parted("without others that live", x, 0, 0, 9, 0, 0);
        OneCode y = family("to 3", 9, 3);
        y.die(2);
        y.die(1);
        parted("the eldest that lives", y, 0, 0, 0, 4, 5, 0);
    }

    /** Terms 4: "Where there is nobody: to the CHEST" */
    static void nobody() {
        for (String end : new String[] {"holds", "owed 7", "to 0", "to 1", "to 3"}) {
            parted("nobody by " + end, dead(end, 199, 0), 0, 0, 199);
            OneCode x = family(end, 199, 2);
            x.die(2);
            x.die(3);
            x.die(1);
            parted("nobody that lives by " + end, x, 0, 0, 0, 0, 199);
        }
        // The CHEST is that of the DISTRICT in which one died.
        OneCode x = family("void", 9, 0);
        x.goes(1, 1);
        x.die(1);
        Due.be("the chest of where it went", x.chest(1), 9);
        Due.be("not of where it was", x.chest(0), 0);
    }

    /** Terms 4: "CLASH or GAP: QUARRELLED: the COINS stay, till it is SETTLED" */
    static void quarrelled() {
        OneCode x = dead("", 9, 2);
        Due.be("a gap: quarrelled", x.personOf(1, 3), 2);
        parted("a gap", x, 0, 9, 0, 0, 0);
        Due.be("count", x.count(5), 1);
        OneCode y = family("void", 9, 2);
        Due.be("another end", Due.custom(y, 0, 0, "holds"), 2);
        Due.be("a clash", y.die(1), CLASH);
        Due.be("a clash: quarrelled", y.personOf(1, 3), 2);
        parted("a clash", y, 0, 9, 0, 0, 0);
        Due.be("struck", y.strike(1, 0), 1);
        parted("struck, but not settled", y, 0, 9, 0, 0, 0);
        Due.be("settled", y.settle(1), 1);
        parted("settled", y, 0, 0, 5, 4, 0);
        Due.be("dead", y.personOf(1, 3), 1);
        Due.be("no quarrel", y.count(5), 0);
    }

    /** Terms 4: "(as on the NOW of then, its SORT as it was)" */
    static void settledAsOnTheDay() {
        OneCode x = family("", 150, 2);
        Due.be("a gap", x.die(1), GAP);
        x.goes(2, 0);
        Due.rule(x, "to 0 if kids=2 and goods=1", 0, 1, 0, 3, 0);
        x.days(2);
        Due.be("the day ahead", x.settle(1), GAP);
        Due.be("the eldest dies", x.die(2), GAP);
        x.days(1);
        Due.be("on the day, for two children", x.settle(1), 200);
        parted("to the eldest that lives then", x, 0, 0, 0, 150, 0);
        Due.be("its sort as it was", x.personOf(1, 4), Due.sort(2, 0, 0, 2, 0, 1));
    }

    /** Terms 4: "By LAW of its DISTRICT for it (facts of NOW, judged and KNOWN NOW)" */
    static void byTheLawOfTheDay() {
        for (int wait = 4; wait <= 5; wait++) {
            OneCode x = family("holds", 9, 1);
            x.carried(0, 5);
            Due.be("line", Due.line(x, 0, "to 2"), 2);
            Due.be("saved", Due.rule(x, "void", 5, 5, 0, 0, 0), 3);
            x.days(wait);
            Due.be("on day " + wait, x.die(1), wait == 5 ? 202 : 1);
            parted("on day " + wait, x, wait == 5 ? 9 : 0, 0, wait == 5 ? 0 : 9, 0);
        }
    }

    // ---- personOf, chest

    /** Promise 32: "-5: none such" */
    static void personOfNone() {
        Still.rich("personOf none", x -> {
            for (int p : new int[] {-1, LOW, 7, 29, 30, HIGH}) {
                Due.be("personOf(" + p + ", 0)", x.personOf(p, 0), -5);
                Due.be("personOf(" + p + ", 5)", x.personOf(p, 5), -5);
            }
            for (int what : new int[] {-1, LOW, 6, HIGH}) {
                Due.be("personOf(0, " + what + ")", x.personOf(0, what), -5);
            }
        });
    }

    /** Promise 32: "1 parent (-1)" and "4 its SORT as it died (-1), 5 living children" */
    static void noParentNoSortNoChildren() {
        OneCode x = World.rich();
        Due.be("no parent", x.personOf(0, 1), -1);
        Due.be("parent 0", x.personOf(1, 1), 0);
        Due.be("no sort as it lives", x.personOf(0, 4), -1);
        Due.be("the sort of one quarrelled over", x.personOf(5, 4), Due.sort(2, 0, 0, 0, 0, 0));
        Due.be("the sort of one dead", x.personOf(6, 4), Due.sort(2, 0, 0, 0, 0, 0));
        Due.be("no children", x.personOf(4, 5), 0);
        Due.be("two of four live", x.personOf(0, 5), 2);
        Due.be("one of two lives", x.personOf(1, 5), 1);
        OneCode y = dead("void", 0, 5);
        Due.be("all children are counted", y.personOf(1, 5), 5);
    }

    /** Promise 32: "4 its SORT as it died (-1)" - -1 of each that lives, wherever and however many there are. */
    static void noSortOfAllThatLive() {
        for (int where = 0; where < 8; where += 7) {
            OneCode x = new OneCode();
            for (int i = 0; i < 8; i++) {
                x.district(0, 1);
            }
            for (int p = 0; p < 30; p++) {
                x.person(where, p - 1, 0, 0, 0, 0);
            }
            x.die(0);
            x.die(7);
            for (int p = 0; p < 30; p++) {
                int due = p == 0 || p == 7 ? Due.sort(2, 0, 0, 1, 0, 0) : -1;
                Due.be("the sort of person " + p + " in district " + where, x.personOf(p, 4), due);
            }
        }
    }

    /** Promise 32: "3 0 living, 1 dead, 2 QUARRELLED" */
    static void livingDeadQuarrelled() {
        OneCode x = World.rich();
        int[] due = {0, 0, 0, 2, 0, 2, 1};
        for (int p = 0; p < due.length; p++) {
            Due.be("state of " + p, x.personOf(p, 3), due[p]);
        }
        Due.be("that live", x.count(4), 4);
        Due.be("quarrelled", x.count(5), 2);
    }

    /** Promise 33: "-5: none such" */
    static void chestNone() {
        Still.rich("chest none", x -> {
            for (int d : new int[] {-2, LOW, 3, 7, 8, HIGH}) {
                Due.be("chest(" + d + ")", x.chest(d), -5);
            }
        });
    }

    /** Promise 33: "The CHEST of a DISTRICT; -1: all COINS and CHESTS together" */
    static void anEmptyChestAndAll() {
        OneCode x = new OneCode();
        Due.be("nobody and nothing", x.chest(-1), 0);
        OneCode y = World.rich();
        Due.be("an empty chest", y.chest(0), 0);
        Due.be("a chest", y.chest(1), 40);
        Due.be("all, those quarrelled over too", y.chest(-1), 350 + 50 + 101 + 7 + 3 + 9 + 40);
        OneCode z = under("void");
        for (int p = 0; p < 30; p++) {
            z.person(0, -1, 0, 0, 0, 9999);
        }
        for (int p = 0; p < 30; p++) {
            z.die(p);
        }
        Due.be("the most that a chest can have", z.chest(0), 299970);
        Due.be("the most of all", z.chest(-1), 299970);
    }
}
