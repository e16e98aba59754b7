/** The boundary cases of promises 45 to 51, of part 6 of the Terms and of what is said there of refusals: each sentence has a test of its own. */
public final class ActsEdgesTest {
    private static final int NONE = -1, BAD = -2, STATE = -3, FULL = -4;
    private static final int LOW = Integer.MIN_VALUE, HIGH = Integer.MAX_VALUE;

    public static void main(String[] args) throws Exception {
        Each.run(ActsEdgesTest.class);
    }

    /** Rules 0 WRITTEN, 1 SWORN, 2 SHOWN, 3 LINE, 4 SAVED, of this RANK. */
    private static OneCode kinds(int rank) {
        OneCode x = new OneCode();
        for (int kind = 1; kind <= 5; kind++) {
            Due.be("rule", Due.rule(x, "void", kind > 3 ? 5 : 0, kind, rank, 0, kind == 2 ? 1 : 0), kind - 1);
        }
        return x;
    }

    private static void ran(String what, OneCode x, int... bodies) {
        Due.be(what + ": how many ran", x.count(11), bodies.length);
        for (int i = 0; i < bodies.length; i++) {
            Due.be(what + ": body " + i, x.trace(i), bodies[i]);
        }
        Due.be(what + ": no more", x.trace(bodies.length), NONE);
    }

    /** Sheets 0 of bytes, 1 of shorts, 2 of ints, of so many items, and a district for what is read. */
    private static OneCode sheets(int n) {
        OneCode x = new OneCode();
        x.district(0, 1);
        for (int sort = 0; sort <= 2; sort++) {
            Due.be("sheet", x.sheet(sort, sort, n), 1);
        }
        return x;
    }

    /** A sheet 0 of this sort with these items. */
    private static OneCode laid(int sort, int... items) {
        OneCode x = new OneCode();
        x.district(0, 1);
        Due.be("sheet", x.sheet(0, sort, items.length), 1);
        for (int i = 0; i < items.length; i++) {
            Due.be("cell", x.cell(0, i, items[i]), 1);
        }
        return x;
    }

    /** That items i .. i + 6 of a sheet tell these FIELDS and this END: shown by a CASE, and one like it of no other END. */
    private static void tells(String what, OneCode x, int sheet, int sort, int i, int... items) {
        int facts = Due.sort(items[0], items[1], items[2], items[3], items[4], items[5]);
        int number = x.count(2);
        Due.be(what + ": a case", x.read(0, sheet, sort, i), number);
        // One CASE of the same SORT and another END quarrels with it; of the same END it does not.
        x.district(0, 1);
        int d = x.count(1) - 1;
        Due.be(what + ": again", x.read(d, sheet, sort, i), number + 1);
        Due.be(what + ": as it is told", x.heard(d, facts, items[6]), number + 2);
        Due.be(what + ": no quarrel, it is that end", x.quarrel(d, 0), NONE);
        Due.be(what + ": another end", x.heard(d, facts, items[6] == 0 ? 1 : 0), number + 3);
        Due.be(what + ": a quarrel, it is that sort", x.quarrel(d, 0), number + 1);
    }

    // ---- acts

    /** Promise 45: "0, and no TRACE then: no such RULE, act" */
    static void actOfNone() {
        int[][] none = {{5, 0}, {5, 1}, {5, 2}, {-1, 0}, {LOW, 0}, {79, 0}, {80, 0}, {HIGH, 2}, {0, 3}, {0, -1}, {0, LOW},
            {4, HIGH}, {-1, -1}, {9, 9}};
        for (int[] n : none) {
            OneCode x = kinds(1);
            x.act(4, 2, 1);
            Due.be("nine ran", x.count(11), 9);
            Due.be("act(" + n[0] + ", " + n[1] + ", 7)", x.act(n[0], n[1], 7), 0);
            ran("no trace then", x);
            x.act(0, 0, 1);
            ran("the next act", x, 10);
        }
        Due.be("no rules at all", new OneCode().act(0, 0, 5), 0);
    }

    /** Promise 45: "no such RULE, act" changes nothing but THE TRACE. */
    static void actOfNoneLeavesTheRest() {
        Still.after("act none", () -> {
            OneCode x = World.rich();
            Due.be("an act of none", x.act(-1, 0, 0), 0);
            return x;
        }, x -> {
            Due.be("no rule", x.act(8, 0, 1), 0);
            Due.be("no rule below", x.act(-1, 0, 1), 0);
            Due.be("no act", x.act(0, 3, 1), 0);
            Due.be("no act below", x.act(0, -1, 1), 0);
        });
    }

    /** Terms 6: "ACTS of RULES, with x (wrapping)" */
    static void wrapping() {
        OneCode x = kinds(9);
        Due.be("x + r at the edge", x.act(0, 0, HIGH - 9), HIGH);
        Due.be("x + r wraps", x.act(0, 0, HIGH - 8), LOW);
        Due.be("far round", x.act(0, 0, HIGH), LOW + 8);
        Due.be("below", x.act(0, 0, LOW), LOW + 9);
        Due.be("holds * 3 wraps", x.act(1, 0, HIGH - 9), HIGH - 2);
        Due.be("holds * 3 wraps of the least", x.act(1, 0, LOW - 9), LOW);
        Due.be("holds * 2 wraps to 0, less r", x.act(0, 1, LOW - 9), -9);
        Due.be("holds * 2 wraps", x.act(1, 1, 1073741824 - 9), (int) (1073741824L * 6));
        Due.be("x + 1 wraps", x.act(2, 2, HIGH), ((LOW + 9) * 2) ^ (LOW + 2 + 9));
        Due.be("x - m wraps", x.act(4, 1, LOW), (((HIGH - 3 + 9) ^ 4) * 2) - 9);
        Due.be("super.hangs - r wraps", x.act(3, 1, 1073741824 - 9 ^ 0), (((1073741824) ^ 3) * 2) - 9);
        Due.be("x + m wraps", x.act(3, 2, HIGH), ((((HIGH + 9) ^ 3) * 2) - 9) ^ (HIGH + 3 + 9 ^ 3));
        Due.be("+ 4 wraps or not", x.act(4, 2, LOW), (((((HIGH - 3 + 9) ^ 4) * 2) - 9) ^ ((LOW + 4 + 9) ^ 4)) + 4);
    }

    /** Terms 6: "m its number, r its RANK" - the least number and RANK, and the last number. */
    static void theFirstAndTheLastRuleActs() {
        OneCode x = kinds(0);
        Due.be("rank 0", x.act(0, 0, 5), 5);
        Due.be("number 0", x.act(0, 2, 5), 10 ^ 5);
        for (int i = 5; i < 80; i++) {
            x.feed(0x766F6964, 4);
            Due.be("rule", x.rule(5, 5, 9, 0, 0), i);
        }
        Due.be("the last holds", x.act(79, 0, 1), 10 ^ 79);
        Due.be("the last hangs", x.act(79, 1, 1), ((1 - 79 + 9) ^ 79) * 2 - 9);
        Due.be("the last saves", x.act(79, 2, 1), ((((1 - 79 + 9) ^ 79) * 2 - 9) ^ ((1 + 79 + 9) ^ 79)) + 4);
    }

    /** Terms 6: "the body of the RULE's KIND, or, if that has none, of the next KIND above that has one" */
    static void bodiesOfKindsAbove() {
        OneCode x = kinds(0);
        x.act(0, 0, 0);
        ran("WRITTEN has no holds", x, 10);
        x.act(0, 1, 0);
        ran("WRITTEN hangs", x, 20, 11, 10);
        x.act(1, 1, 0);
        ran("SWORN has no hangs", x, 11, 30, 10);
        x.act(1, 2, 0);
        ran("SWORN has no saves", x, 12, 11, 30, 10, 30, 10);
        x.act(2, 0, 0);
        ran("SHOWN has no holds", x, 10);
        x.act(2, 1, 0);
        ran("SHOWN has no hangs", x, 11, 10);
        x.act(3, 1, 0);
        ran("LINE has no hangs: that of WRITTEN", x, 20, 11, 50, 10);
        x.act(3, 2, 0);
        ran("LINE has no saves: that of RULE", x, 12, 20, 11, 50, 10, 50, 10);
        x.act(4, 0, 0);
        ran("SAVED has no holds: that of LINE", x, 50, 10);
    }

    /** Terms 6: "super.holds(..): so from the KIND above the body's on" */
    static void superOfKindsAbove() {
        OneCode x = kinds(0);
        x.act(4, 1, 0);
        ran("LINE has no hangs: that of WRITTEN", x, 61, 20, 11, 50, 10);
        x.act(4, 2, 0);
        ran("LINE and WRITTEN have no saves", x, 60, 12, 61, 20, 11, 50, 10, 50, 10);
        x.act(3, 0, 0);
        ran("WRITTEN has no holds", x, 50, 10);
        x.act(2, 2, 0);
        ran("SHOWN's is RULE's", x, 40, 12, 11, 10, 10);
    }

    /** Terms 6: "THE TRACE: the numbers of the bodies that ran in the latest act(), in the order in which they began; the first 20 are kept" */
    static void theLongestTraceIsKept() {
        // No act runs more than nine bodies, so that the first 20 are all.
        OneCode x = kinds(3);
        int most = 0;
        for (int rule = 0; rule < 5; rule++) {
            for (int act = 0; act <= 2; act++) {
                x.act(rule, act, 5);
                int ran = x.count(11);
                most = Math.max(most, ran);
                Due.hold("the last is kept", x.trace(ran - 1) > 0);
                Due.be("none behind it", x.trace(ran), NONE);
            }
        }
        Due.be("the most that ran", most, 9);
    }

    /** Promise 46: "NONE: none such" */
    static void traceNone() {
        Still.rich("trace none", x -> {
            Due.be("nine ran", x.count(11), 9);
            for (int i : new int[] {-1, LOW, 9, 10, 19, 20, 21, HIGH}) {
                Due.be("trace(" + i + ")", x.trace(i), NONE);
            }
            Due.be("the first", x.trace(0), 60);
            Due.be("the last", x.trace(8), 10);
        });
        Due.be("no act so far", new OneCode().trace(0), NONE);
    }

    // ---- taken, count

    /** Promise 47: "BAD: k" of "A RULE taken for one of KIND k (0 .. 5)" */
    static void takenForNoKind() {
        Still.rich("taken bad", x -> {
            for (int k : new int[] {-1, LOW, 6, HIGH}) {
                Due.be("taken(0, " + k + ")", x.taken(0, k), BAD);
                Due.be("bad ahead of none", x.taken(8, k), BAD);
            }
        });
    }

    /** Promise 47: "-11: no such RULE" */
    static void takenOfNoRule() {
        Still.rich("taken none", x -> {
            for (int rule : new int[] {-1, LOW, 8, 79, 80, HIGH}) {
                for (int k = 0; k <= 5; k++) {
                    Due.be("taken(" + rule + ", " + k + ")", x.taken(rule, k), -11);
                }
            }
        });
        Due.be("no rules at all", new OneCode().taken(0, 0), -11);
    }

    /** Promise 47: "-13" of a RULE that is neither of KIND k "or one under that (also by others between)" */
    static void takenForAnother() {
        Still.after("taken for another", () -> kinds(1), x -> {
            int[][] under = {{1}, {2}, {3}, {1, 4}, {1, 4, 5}};
            for (int rule = 0; rule < 5; rule++) {
                Due.be("rule " + rule + " for a RULE", x.taken(rule, 0), rule + 1);
                for (int k = 1; k <= 5; k++) {
                    boolean is = false;
                    for (int u : under[rule]) {
                        is = is || u == k;
                    }
                    Due.be("rule " + rule + " for " + k, x.taken(rule, k), is ? rule + 1 : -13);
                }
            }
        });
    }

    /** Promise 48: "12 DEEDS. BAD" */
    static void countOfNothing() {
        Still.rich("count bad", x -> {
            for (int what : new int[] {-1, LOW, 13, 14, HIGH}) {
                Due.be("count(" + what + ")", x.count(what), BAD);
            }
        });
        OneCode x = World.rich();
        Due.be("the first", x.count(0), 8);
        Due.be("the last", x.count(12), 3);
    }

    /** Promise 48: "11 bodies that ran in the latest act() (all, kept or not)" - at first none. */
    static void noBodiesAtFirst() {
        OneCode x = kinds(1);
        Due.be("none", x.count(11), 0);
        x.act(4, 2, 0);
        Due.be("nine", x.count(11), 9);
        x.act(0, 0, 0);
        Due.be("of the latest alone", x.count(11), 1);
    }

    // ---- sheets

    /** Promise 49: "BAD: no such SHEET, sort; n above 40; -14: n below 0" - no such SHEET, sort. */
    static void sheetBad() {
        Still.rich("sheet bad", x -> {
            for (int sheet : new int[] {-1, LOW, 3, HIGH}) {
                Due.be("sheet " + sheet, x.sheet(sheet, 0, 7), BAD);
                Due.be("sheet " + sheet + " missing", x.sheet(sheet, -1, 0), BAD);
                Due.be("bad ahead of below 0", x.sheet(sheet, 0, -1), BAD);
            }
            for (int sort : new int[] {-2, LOW, 3, HIGH}) {
                Due.be("sort " + sort, x.sheet(0, sort, 7), BAD);
                Due.be("bad ahead of below 0", x.sheet(0, sort, -1), BAD);
            }
        });
    }

    /** Promise 49: "n above 40" */
    static void sheetTooLong() {
        Still.rich("sheet too long", x -> {
            for (int n : new int[] {41, 42, 1000, HIGH}) {
                Due.be("n " + n, x.sheet(0, 1, n), BAD);
                Due.be("n " + n + " of a missing one", x.sheet(2, 0, n), BAD);
            }
        });
        OneCode x = sheets(40);
        for (int sheet = 0; sheet <= 2; sheet++) {
            Due.be("the last of forty", x.cell(sheet, 39, 1), 1);
            Due.be("no more", x.cell(sheet, 40, 1), -12);
        }
    }

    /** Promise 49: "-14: n below 0" */
    static void sheetTooShort() {
        Still.rich("sheet too short", x -> {
            for (int n : new int[] {-1, -2, -40, LOW}) {
                for (int sort = 0; sort <= 2; sort++) {
                    Due.be("n " + n, x.sheet(0, sort, n), -14);
                    Due.be("n " + n + " of a missing one", x.sheet(2, sort, n), -14);
                }
            }
        });
        OneCode x = sheets(0);
        for (int sheet = 0; sheet <= 2; sheet++) {
            Due.be("none is no item", x.cell(sheet, 0, 1), -12);
            Due.be("but not missing", x.copy(sheet, 0, sheet, 0, 0), 0);
        }
        Due.be("one", x.sheet(0, 0, 1), 1);
        Due.be("one is an item", x.cell(0, 0, 1), 1);
        Due.be("one is no second", x.cell(0, 1, 1), -12);
    }

    /** Promise 49: "or missing (sort -1: n does not matter)" */
    static void sheetMissing() {
        for (int n : new int[] {0, -1, LOW, 41, HIGH, 7}) {
            OneCode x = sheets(7);
            Due.be("missing, n " + n, x.sheet(0, -1, n), 1);
            Due.be("it is missing", x.cell(0, 0, 1), -11);
            Due.be("the next is not", x.cell(1, 0, 1), 1);
            Due.be("missing again", x.sheet(0, -1, n), 1);
        }
        Still.rich("sheet missing still", x -> Due.be("a missing one", x.sheet(2, -1, -1), 1));
    }

    /** Promise 49: "A SHEET becomes a row of n of a sort, all 0" */
    static void sheetAllNone() {
        for (int sort = 0; sort <= 2; sort++) {
            OneCode x = laid(sort, 1, 1, 1, 1, 1, 1, 1, 1);
            Due.be("anew", x.sheet(0, sort, 8), 1);
            tells("all 0", x, 0, sort, 1, 0, 0, 0, 0, 0, 0, 0);
            OneCode y = laid(sort, 1, 1, 1, 1, 1, 1, 1, 1);
            Due.be("missing", y.sheet(0, -1, 0), 1);
            Due.be("there again", y.sheet(0, sort, 7), 1);
            tells("all 0 again", y, 0, sort, 0, 0, 0, 0, 0, 0, 0, 0);
            OneCode z = laid(sort, 1, 1, 1, 1, 1, 1, 1, 1);
            Due.be("shorter", z.sheet(0, sort, 7), 1);
            Due.be("longer", z.sheet(0, sort, 8), 1);
            tells("all 0 to the end", z, 0, sort, 1, 0, 0, 0, 0, 0, 0, 0);
        }
    }

    /** Terms 6: "SHEETS 0 .. 2 are rows of numbers, or missing (as all are at first): of sort 0 bytes, 1 shorts, 2 ints" */
    static void sheetsAtFirst() {
        OneCode x = new OneCode();
        x.district(0, 1);
        for (int sheet = 0; sheet <= 2; sheet++) {
            Due.be("cell of " + sheet, x.cell(sheet, 0, 0), -11);
            Due.be("read of " + sheet, x.read(0, sheet, sheet, 0), -11);
            Due.be("copy of " + sheet, x.copy(sheet, 0, sheet, 0, 0), -11);
        }
        Due.be("no fourth", x.cell(3, 0, 0), BAD);
    }

    /** Promise 50: "BAD: no such SHEET" */
    static void cellOfNoSheet() {
        Still.rich("cell bad", x -> {
            for (int sheet : new int[] {-1, LOW, 3, HIGH}) {
                Due.be("cell(" + sheet + ", 0, 1)", x.cell(sheet, 0, 1), BAD);
                Due.be("bad ahead of no item", x.cell(sheet, -1, 1), BAD);
            }
        });
    }

    /** Promise 50: "-11: it is missing" */
    static void cellOfAMissingSheet() {
        Still.rich("cell missing", x -> {
            for (int i : new int[] {0, 1, -1, 40, LOW, HIGH}) {
                Due.be("cell(2, " + i + ", 1)", x.cell(2, i, 1), -11);
            }
        });
    }

    /** Promise 50: "-12: no such item" */
    static void cellOfNoItem() {
        Still.rich("cell no item", x -> {
            for (int i : new int[] {-1, LOW, 9, 10, 39, 40, HIGH}) {
                Due.be("cell(0, " + i + ", 3)", x.cell(0, i, 3), -12);
            }
            for (int i : new int[] {-1, LOW, 7, 8, 40, HIGH}) {
                Due.be("cell(1, " + i + ", 3)", x.cell(1, i, 3), -12);
            }
        });
        OneCode x = laid(2, 0, 0, 0, 0, 0, 0, 0);
        Due.be("the first", x.cell(0, 0, 3), 1);
        Due.be("the last", x.cell(0, 6, 203), 1);
        tells("first and last", x, 0, 2, 0, 3, 0, 0, 0, 0, 0, 203);
    }

    /** Promise 50: "(of bytes, shorts its lowest 8, 16 bits)" */
    static void cellWrapsAround() {
        int[] bits = {8, 16};
        for (int sort = 0; sort <= 1; sort++) {
            int round = 1 << bits[sort];
            for (int v : new int[] {round + 2, 2 - round, 7 * round + 2, LOW + 2, HIGH - round + 3, 2}) {
                OneCode x = laid(sort, 0, 0, 0, 0, 0, 0, 0);
                Due.be("cell", x.cell(0, 0, v), 1);
                tells(v + " of sort " + sort, x, 0, sort, 0, 2, 0, 0, 0, 0, 0, 0);
            }
            OneCode x = laid(sort, 0, 0, 0, 0, 0, 0, 0);
            Due.be("cell", x.cell(0, 0, round / 2 + 1), 1);
            Due.be("no field of sort " + sort, x.read(0, 0, sort, 0), BAD);
            Due.be("cell", x.cell(0, 0, -1), 1);
            Due.be("no field below 0 of sort " + sort, x.read(0, 0, sort, 0), BAD);
            Due.be("cell", x.cell(0, 0, round - 1), 1);
            Due.be("no field of all bits of sort " + sort, x.read(0, 0, sort, 0), BAD);
        }
        for (int v : new int[] {258, 65538, LOW + 2, HIGH, -1}) {
            OneCode x = laid(2, 0, 0, 0, 0, 0, 0, 0);
            Due.be("cell", x.cell(0, 0, v), 1);
            Due.be(v + " of ints stays", x.read(0, 0, 2, 0), BAD);
        }
        OneCode x = laid(1, 0, 0, 0, 0, 0, 0, 203);
        tells("203 of shorts", x, 0, 1, 0, 0, 0, 0, 0, 0, 0, 203);
        OneCode y = laid(0, 0, 0, 0, 0, 0, 0, 127);
        tells("127 of bytes", y, 0, 0, 0, 0, 0, 0, 0, 0, 0, 127);
    }

    /** Promise 51: "BAD: no such SHEETS; -11: one is missing" - BAD. */
    static void copyOfNoSheets() {
        Still.rich("copy bad", x -> {
            for (int sheet : new int[] {-1, LOW, 3, HIGH}) {
                Due.be("of " + sheet, x.copy(sheet, 0, 0, 0, 1), BAD);
                Due.be("to " + sheet, x.copy(0, 0, sheet, 0, 1), BAD);
                Due.be("bad ahead of missing, of " + sheet, x.copy(sheet, 0, 2, 0, 1), BAD);
                Due.be("bad ahead of missing, to " + sheet, x.copy(2, 0, sheet, 0, 1), BAD);
                Due.be("bad ahead of beyond", x.copy(0, -1, sheet, -1, -1), BAD);
            }
        });
    }

    /** Promise 51: "-11: one is missing" */
    static void copyOfAMissingOne() {
        Still.rich("copy missing", x -> {
            Due.be("of it", x.copy(2, 0, 0, 0, 0), -11);
            Due.be("to it", x.copy(0, 0, 2, 0, 0), -11);
            Due.be("of it to itself", x.copy(2, 0, 2, 0, 0), -11);
            Due.be("ahead of beyond", x.copy(2, -1, 0, 99, -1), -11);
            Due.be("to it, ahead of beyond", x.copy(0, 99, 2, 0, 99), -11);
        });
    }

    /** Promise 51: "-13: they are not of one sort" */
    static void copyToAnotherSort() {
        Still.after("copy another sort", () -> {
            OneCode x = World.rich();
            x.sheet(1, 2, 7);
            return x;
        }, x -> {
            Due.be("shorts to ints", x.copy(0, 0, 1, 0, 1), -13);
            Due.be("ints to shorts", x.copy(1, 0, 0, 0, 1), -13);
            Due.be("nothing", x.copy(0, 0, 1, 0, 0), -13);
            Due.be("ahead of beyond", x.copy(0, -1, 1, 99, -1), -13);
            Due.be("missing ahead of it", x.copy(2, 0, 1, 0, 1), -11);
        });
        OneCode x = sheets(7);
        for (int a = 0; a <= 2; a++) {
            for (int b = 0; b <= 2; b++) {
                Due.be(a + " to " + b, x.copy(a, 0, b, 0, 7), a == b ? 7 : -13);
            }
        }
    }

    /** Promise 51: "-12: n, i or j is below 0, or beyond either's end" */
    static void copyBeyondAnEnd() {
        // SHEET 0 has nine items, SHEET 1 seven.
        Still.rich("copy beyond", x -> {
            int[][] beyond = {{0, 0, -1}, {-1, 0, 0}, {0, -1, 0}, {-1, 0, 1}, {0, -1, 1}, {0, 0, 8}, {3, 0, 7}, {0, 1, 7},
                {10, 0, 0}, {0, 8, 0}, {9, 0, 1}, {0, 7, 1}, {HIGH, 0, 1}, {0, HIGH, 1}, {1, 0, HIGH}, {0, 1, HIGH},
                {HIGH, 0, 0}, {0, HIGH, 0}, {HIGH, HIGH, HIGH}, {LOW, 0, 1}, {0, LOW, 1}, {0, 0, LOW}, {LOW, LOW, LOW},
                {5, 5, LOW}, {HIGH, 0, LOW}, {1, 1, -1}};
            for (int[] b : beyond) {
                Due.be("copy(0, " + b[0] + ", 1, " + b[1] + ", " + b[2] + ")", x.copy(0, b[0], 1, b[1], b[2]), -12);
            }
        });
        Still.rich("copy beyond itself", x -> {
            Due.be("of it", x.copy(0, 3, 0, 0, 7), -12);
            Due.be("to it", x.copy(0, 0, 0, 3, 7), -12);
            Due.be("all and one", x.copy(0, 0, 0, 0, 10), -12);
        });
    }

    /** Promise 51: "n items of a SHEET from i on come to another SHEET (or the same) from j on" - none, and all. */
    static void copyOfNoneAndOfAll() {
        Still.rich("copy of none", x -> {
            Due.be("none", x.copy(0, 0, 1, 0, 0), 0);
            Due.be("none at the ends", x.copy(0, 9, 1, 7, 0), 0);
            Due.be("none of itself", x.copy(0, 9, 0, 0, 0), 0);
            Due.be("all to where they are", x.copy(0, 0, 0, 0, 9), 9);
            Due.be("the last to where it is", x.copy(0, 8, 0, 8, 1), 1);
        });
        OneCode x = World.rich();
        Due.be("as many as it has", x.copy(0, 0, 1, 0, 7), 7);
        tells("all of them", x, 1, 1, 0, 1, 2, 0, 3, 1, 2, 203);
        OneCode y = World.rich();
        Due.be("the last to the first", y.copy(1, 2, 0, 8, 1), 1);
        Due.be("and back to the last", y.copy(0, 8, 1, 6, 1), 1);
        tells("the last", y, 1, 1, 0, 0, 0, 1, 0, 0, 0, 1);
        OneCode z = sheets(40);
        for (int sheet = 0; sheet <= 2; sheet++) {
            Due.be("forty", z.copy(sheet, 0, sheet, 0, 40), 40);
            Due.be("forty and one", z.copy(sheet, 0, sheet, 0, 41), -12);
        }
    }

    /** Promise 51: "as they all were before" */
    static void copyOverItself() {
        for (int sort = 0; sort <= 2; sort++) {
            OneCode up = laid(sort, 1, 2, 0, 3, 1, 2, 101, 0, 0);
            Due.be("up by one", up.copy(0, 0, 0, 1, 7), 7);
            tells("up by one", up, 0, sort, 1, 1, 2, 0, 3, 1, 2, 101);
            OneCode far = laid(sort, 1, 2, 0, 3, 1, 2, 101, 0, 0);
            Due.be("up by two", far.copy(0, 0, 0, 2, 7), 7);
            tells("up by two", far, 0, sort, 2, 1, 2, 0, 3, 1, 2, 101);
            OneCode down = laid(sort, 0, 0, 1, 2, 0, 3, 1, 2, 101);
            Due.be("down by one", down.copy(0, 1, 0, 0, 8), 8);
            tells("down by one", down, 0, sort, 1, 1, 2, 0, 3, 1, 2, 101);
            OneCode low = laid(sort, 0, 0, 1, 2, 0, 3, 1, 2, 101);
            Due.be("down by two", low.copy(0, 2, 0, 0, 7), 7);
            tells("down by two", low, 0, sort, 0, 1, 2, 0, 3, 1, 2, 101);
        }
    }

    // ---- refusals

    /** Terms 6: "Answers: NONE (-1) there is no such number; BAD (-2) a number is not as told; STATE (-3) as told; FULL (-4)" */
    static void theNumbersOfRefusals() {
        Due.be("NONE", OneCode.NONE, -1);
        Due.be("BAD", OneCode.BAD, -2);
        Due.be("STATE", OneCode.STATE, -3);
        Due.be("FULL", OneCode.FULL, -4);
        OneCode x = World.rich();
        Due.be("none", x.left(3), -1);
        Due.be("bad", x.days(0), -2);
        Due.be("state", x.strike(2, 0), -3);
        for (int n = 15; n <= 87; n += 4) {
            Due.be("bytes", x.feed(0, 4), n);
        }
        Due.be("full", x.feed(0, 4), -4);
    }

    /** Terms 6: "the first that a call's words name" - each call that names several, all of them at once. */
    static void theFirstRefusalNamed() {
        OneCode x = World.rich();
        Due.be("rule", x.rule(6, 1, 10, -1, 9), NONE);
        Due.be("strike", x.strike(8, -1), NONE);
        Due.be("strike of one struck", x.strike(2, -1), BAD);
        Due.be("district", x.district(5, 0), NONE);
        Due.be("carried", x.carried(3, 0), NONE);
        Due.be("carried where a day was told", x.carried(1, 0), BAD);
        Due.be("deed", x.deed(3, -1), NONE);
        Due.be("heard", x.heard(3, -1, 2), NONE);
        Due.be("read", x.read(3, 2, 0, -1), NONE);
        Due.be("read of another sort", x.read(0, 0, 0, -1), -13);
        Due.be("read of a missing one", x.read(0, 2, 0, -1), -11);
        Due.be("moves", x.moves(8, 0), NONE);
        Due.be("person", x.person(3, -2, -1, -1, -1, -1), NONE);
        Due.be("goes", x.goes(6, 3), NONE);
        Due.be("way", x.way(5, 10), NONE);
        Due.be("way of no rank", x.way(0, 10), BAD);
        Due.be("least", new OneCode().least(2), NONE);
        Due.be("teach", x.teach(3, 0, 0), NONE);
        Due.be("teach of no what", x.teach(0, 3, -9), NONE);
        Due.be("taken", x.taken(8, 6), BAD);
        Due.be("sheet", x.sheet(3, 0, -1), BAD);
        Due.be("cell", x.cell(3, -1, 0), BAD);
        Due.be("cell of a missing one", x.cell(2, -1, 0), -11);
        Due.be("copy", x.copy(3, -1, 2, -1, -1), BAD);
        Due.be("copy of a missing one", x.copy(2, -1, 0, -1, -1), -11);
    }

    /** Terms 6: "What is answered so changes nothing" - one refusal of each call, all together. */
    static void nothingIsChanged() {
        Still.rich("refusals of all calls", x -> {
            Due.be("days", x.days(0), BAD);
            Due.be("feed", x.feed(1, 5), BAD);
            Due.be("rule", x.rule(0, 1, 0, 0, 1), BAD);
            Due.be("strike", x.strike(2, 0), STATE);
            Due.be("fall", x.fall(0), STATE);
            Due.be("ruleOf", x.ruleOf(0, 8), -5);
            Due.be("fits", x.fits(0, 1536), NONE);
            Due.be("answer", x.answer(0, 0, -1, 0), -5);
            Due.be("why", x.why(0, 0, 0, -1, 0), -5);
            Due.be("district", x.district(0, 100), BAD);
            Due.be("carried", x.carried(1, 30), STATE);
            Due.be("law", x.law(0, 0, 1, 0, 0), -5);
            Due.be("deed", x.deed(0, 1536), BAD);
            Due.be("deedEnd", x.deedEnd(0, 19, 0), -5);
            Due.be("lost", x.lost(0, 2), -5);
            Due.be("courts", x.courts(3), BAD);
            Due.be("court", x.court(0, 1, 0, 21), -5);
            Due.be("unlike", x.unlike(0, 1, 3), -5);
            Due.be("wrong", x.wrong(0, 2, 0), -5);
            Due.be("heard", x.heard(0, 0, 99), BAD);
            Due.be("read", x.read(0, 0, 1, 1), BAD);
            Due.be("left", x.left(3), NONE);
            Due.be("form", x.form(0, 8), NONE);
            Due.be("parts", x.parts(1, 0), NONE);
            Due.be("quarrel", x.quarrel(0, 0), NONE);
            Due.be("moves", x.moves(0, 0), -21);
            Due.be("person", x.person(0, -1, 4, 0, 0, 0), BAD);
            Due.be("goes", x.goes(3, 0), STATE);
            Due.be("die", x.die(6), STATE);
            Due.be("settle", x.settle(0), STATE);
            Due.be("personOf", x.personOf(0, 6), -5);
            Due.be("chest", x.chest(3), -5);
            Due.be("way", x.way(0, 10), BAD);
            Due.be("keeps", x.keeps(2), -5);
            Due.be("near", x.near(2), NONE);
            Due.be("line", x.line(100), BAD);
            Due.be("like", x.like(0, 0, 10), -100);
            Due.be("yes", x.yes(8), NONE);
            Due.be("least", x.least(2), NONE);
            Due.be("teach", x.teach(0, 2, 2), BAD);
            Due.be("taught", x.taught(3), NONE);
            Due.be("trace", x.trace(9), NONE);
            Due.be("taken", x.taken(0, 2), -13);
            Due.be("count", x.count(13), BAD);
            Due.be("sheet", x.sheet(0, 0, 41), BAD);
            Due.be("cell", x.cell(0, 9, 0), -12);
            Due.be("copy", x.copy(0, 0, 1, 0, 8), -12);
        });
        Still.after("section when full", () -> {
            OneCode x = World.rich();
            for (int i = 3; i < 9; i++) {
                x.section();
            }
            return x;
        }, x -> Due.be("section", x.section(), FULL));
    }
}
