/** The boundary cases of promises 21 to 27 and of part 3 of the Terms: each sentence has a test of its own. */
public final class CasesEdgesTest {
    private static final int NONE = -1, BAD = -2, FULL = -4;
    private static final int LOW = Integer.MIN_VALUE, HIGH = Integer.MAX_VALUE;
    private static final int[] SIZES = {4, 4, 3, 4, 2, 4};

    public static void main(String[] args) throws Exception {
        Each.run(CasesEdgesTest.class);
    }

    private static OneCode fullOfCases() {
        OneCode x = World.rich();
        for (int i = 5; i < 100; i++) {
            Due.be("case " + i, x.heard(i % 3, i, i % 2), i);
        }
        return x;
    }

    private static OneCode districts(int n) {
        OneCode x = new OneCode();
        for (int i = 0; i < n; i++) {
            x.district(i % 5, 1 + i);
        }
        return x;
    }

    private static void lay(OneCode x, int sheet, int sort, int... items) {
        Due.be("sheet", x.sheet(sheet, sort, items.length), 1);
        for (int i = 0; i < items.length; i++) {
            Due.be("cell", x.cell(sheet, i, items[i]), 1);
        }
    }

    // ---- heard

    /** Promise 21: "NONE: district; BAD: sort, end; FULL" - NONE: district. */
    static void heardOfNoDistrict() {
        Still.rich("heard none", x -> {
            for (int d : new int[] {-1, LOW, 3, 7, 8, HIGH}) {
                Due.be("heard(" + d + ", 0, 0)", x.heard(d, 0, 0), NONE);
                Due.be("none ahead of bad", x.heard(d, -1, 2), NONE);
            }
        });
    }

    /** Promise 21: "BAD: sort, end" - BAD: sort; Terms 1: "(0 .. 1535)" */
    static void heardOfNoSort() {
        Still.rich("heard bad sort", x -> {
            for (int sort : new int[] {-1, LOW, 1536, HIGH}) {
                Due.be("sort " + sort, x.heard(0, sort, 0), BAD);
            }
        });
        OneCode x = districts(1);
        Due.be("the first sort", x.heard(0, 0, 0), 0);
        Due.be("the last sort", x.heard(0, 1535, 1), 1);
        // They part in every FIELD: <1, <2 or more, = either, > any below.
        Due.be("their forms", x.left(0), 4 * 8 + 6 + 4);
    }

    /** Promise 21: "BAD: sort, end" - BAD: end; Terms 1: "An END is a number: 0 VOID, 1 HOLDS, 100 and n OWED n (0 .. 99), 200 and k GOES by way k (0 .. 3)" */
    static void heardOfNoEnd() {
        Still.rich("heard bad end", x -> {
            for (int end : new int[] {LOW, -5, -4, -3, -2, -1, 2, 3, 50, 98, 99, 204, 205, 300, HIGH}) {
                Due.be("end " + end, x.heard(0, 0, end), BAD);
            }
        });
        OneCode x = districts(1);
        int[] ends = {0, 1, 100, 101, 199, 200, 201, 202, 203};
        for (int i = 0; i < ends.length; i++) {
            Due.be("end " + ends[i], x.heard(0, i, ends[i]), i);
        }
    }

    /** Promise 21: "FULL" */
    static void casesFull() {
        Still.after("cases full", CasesEdgesTest::fullOfCases, x -> {
            Due.be("one more", x.heard(0, 0, 0), FULL);
            Due.be("bad ahead of full, sort", x.heard(0, 1536, 0), BAD);
            Due.be("bad ahead of full, end", x.heard(0, 0, 2), BAD);
            Due.be("none ahead of full", x.heard(3, 0, 0), NONE);
        });
    }

    /** Terms 3: "CASES 0 .. 99, as they come" */
    static void theLastCase() {
        OneCode x = districts(2);
        for (int i = 0; i < 98; i++) {
            Due.be("case", x.heard(0, 0, 0), i);
        }
        Due.be("the last but one", x.heard(1, 5, 0), 98);
        Due.be("the last", x.heard(1, 5, 1), 99);
        Due.be("it quarrels", x.quarrel(1, 1), 99);
        Due.be("all", x.count(2), 100);
    }

    // ---- read

    /** Promise 22: "NONE: no such DISTRICT, SHEET, sort" */
    static void readNone() {
        Still.rich("read none", x -> {
            for (int d : new int[] {-1, LOW, 3, 7, 8, HIGH}) {
                Due.be("district " + d, x.read(d, 0, 1, 0), NONE);
                Due.be("none ahead of missing", x.read(d, 2, 1, 0), NONE);
                Due.be("none ahead of another sort", x.read(d, 0, 2, 0), NONE);
            }
            for (int sheet : new int[] {-1, LOW, 3, HIGH}) {
                Due.be("sheet " + sheet, x.read(0, sheet, 1, 0), NONE);
            }
            for (int sort : new int[] {-1, LOW, 3, HIGH}) {
                Due.be("sort " + sort, x.read(0, 0, sort, 0), NONE);
                Due.be("none ahead of missing, sort " + sort, x.read(0, 2, sort, 0), NONE);
            }
            Due.be("none ahead of too few items", x.read(3, 0, 1, 40), NONE);
        });
    }

    /** Promise 22: "-13: it is of another sort" */
    static void readOfAnotherSort() {
        Still.rich("read another sort", x -> {
            Due.be("shorts for bytes", x.read(0, 0, 0, 0), -13);
            Due.be("shorts for ints", x.read(0, 0, 2, 0), -13);
            Due.be("ahead of too few items", x.read(0, 0, 0, 3), -13);
            Due.be("ahead of an item below 0", x.read(0, 0, 2, -1), -13);
            Due.be("ahead of bad", x.read(0, 0, 2, 1), -13);
        });
        for (int sort = 0; sort <= 2; sort++) {
            OneCode x = districts(1);
            lay(x, 0, sort, 0, 0, 0, 0, 0, 0, 0);
            for (int taken = 0; taken <= 2; taken++) {
                Due.be(sort + " taken for " + taken, x.read(0, 0, taken, 0), taken == sort ? 0 : -13);
            }
        }
    }

    /** Promise 22: "-11: it is missing" */
    static void readOfAMissingOne() {
        Still.rich("read missing", x -> {
            for (int sort = 0; sort <= 2; sort++) {
                Due.be("for sort " + sort, x.read(0, 2, sort, 0), -11);
                Due.be("ahead of an item below 0", x.read(0, 2, sort, -1), -11);
                Due.be("ahead of an item beyond all", x.read(0, 2, sort, HIGH), -11);
            }
        });
        OneCode x = World.rich();
        x.sheet(0, -1, 0);
        Due.be("made missing", x.read(0, 0, 1, 0), -11);
    }

    /** Promise 22: "by items i .. i + 6 of a SHEET" and "-12: it has not so many" */
    static void readOfTooFew() {
        Still.rich("read too few", x -> {
            for (int i : new int[] {3, 4, 8, 9, 10, 40, HIGH, HIGH - 6, -1, -6, -7, LOW}) {
                Due.be("i " + i, x.read(0, 0, 1, i), -12);
            }
            Due.be("one item too late", x.read(0, 1, 1, 1), -12);
        });
        OneCode x = districts(1);
        for (int n = 0; n <= 6; n++) {
            x.sheet(0, 2, n);
            Due.be(n + " items", x.read(0, 0, 2, 0), -12);
        }
        x.sheet(0, 2, 7);
        Due.be("seven items", x.read(0, 0, 2, 0), 0);
        x.sheet(0, 2, 40);
        Due.be("the last seven of forty", x.read(0, 0, 2, 33), 1);
        Due.be("not so many behind", x.read(0, 0, 2, 34), -12);
    }

    /** Promise 22: "BAD: a FIELD, the END" - BAD: a FIELD. */
    static void readOfNoField() {
        for (int f = 0; f < 6; f++) {
            int field = f;
            for (int v : new int[] {SIZES[f], SIZES[f] + 1, -1, 127, -128}) {
                Still.after("read field " + f, () -> ofBytes(field, v), x ->
                    Due.be("field " + field + " is " + v, x.read(0, 1, 0, 0), BAD));
            }
            for (int v : new int[] {LOW, HIGH, 65536, 256}) {
                OneCode x = districts(1);
                lay(x, 0, 2, 0, 0, 0, 0, 0, 0, 0);
                x.cell(0, f, v);
                Due.be("int field " + f + " is " + v, x.read(0, 0, 2, 0), BAD);
                Due.be("no case came", x.count(2), 0);
            }
            OneCode x = ofBytes(f, SIZES[f] - 1);
            Due.be("field at most", x.read(0, 1, 0, 0), 5);
            x.cell(1, f, 0);
            Due.be("field at least", x.read(0, 1, 0, 0), 6);
        }
    }

    private static OneCode ofBytes(int field, int v) {
        OneCode x = World.rich();
        lay(x, 1, 0, 0, 0, 0, 0, 0, 0, 1);
        x.cell(1, field, v);
        return x;
    }

    /** Promise 22: "BAD: a FIELD, the END; FULL" - BAD: the END. */
    static void readOfNoEnd() {
        for (int end : new int[] {-1, -3, 2, 99, 204, LOW, HIGH}) {
            Still.after("read end", () -> ofInts(end), x -> Due.be("end " + end, x.read(0, 1, 2, 0), BAD));
        }
        for (int end : new int[] {0, 1, 100, 199, 200, 203}) {
            OneCode x = ofInts(end);
            Due.be("end " + end, x.read(2, 1, 2, 0), 5);
            x.heard(2, 0, end);
            Due.be("it is that end", x.quarrel(2, 0), NONE);
            x.heard(2, 0, end == 0 ? 1 : 0);
            Due.be("and no other", x.quarrel(2, 0), 5);
        }
    }

    private static OneCode ofInts(int end) {
        OneCode x = World.rich();
        lay(x, 1, 2, 0, 0, 0, 0, 0, 0, end);
        return x;
    }

    /** Promise 22: "the six FIELDS, then the END" - the least and the most that they can be. */
    static void readOfTheFirstAndTheLastSort() {
        OneCode x = districts(2);
        lay(x, 0, 1, 0, 0, 0, 0, 0, 0, 0, 3, 3, 2, 3, 1, 3, 203);
        Due.be("the first", x.read(0, 0, 1, 0), 0);
        Due.be("the last", x.read(1, 0, 1, 7), 1);
        x.heard(0, 0, 1);
        x.heard(1, 1535, 202);
        Due.be("it is sort 0", x.quarrel(0, 1), 2);
        Due.be("it is sort 1535", x.quarrel(1, 1), 3);
    }

    /** Promise 22: "the END: its number" and "FULL", which comes last. */
    static void readFull() {
        Still.after("read full", CasesEdgesTest::fullOfCases, x -> {
            Due.be("one more", x.read(0, 0, 1, 0), FULL);
            Due.be("bad ahead of full", x.read(0, 0, 1, 1), BAD);
            Due.be("too few ahead of full", x.read(0, 0, 1, 3), -12);
            Due.be("missing ahead of full", x.read(0, 2, 1, 0), -11);
            Due.be("another sort ahead of full", x.read(0, 0, 0, 0), -13);
            Due.be("none ahead of full", x.read(0, 0, 3, 0), NONE);
        });
    }

    // ---- left, form

    /** Promise 23: "How many FORMS are LEFT for a DISTRICT. NONE" */
    static void leftNone() {
        Still.rich("left none", x -> {
            for (int d : new int[] {-1, LOW, 3, 7, 8, HIGH}) {
                Due.be("left(" + d + ")", x.left(d), NONE);
            }
        });
    }

    /** Terms 3: "A FORM is LEFT for a DISTRICT, if all its CASES in which it holds have one END, and all others one" */
    static void leftOfNoCasesAndOfOneEnd() {
        OneCode x = districts(2);
        Due.be("no cases", x.left(0), 72);
        x.heard(0, 700, 1);
        Due.be("one case", x.left(0), 72);
        x.heard(0, 700, 1);
        x.heard(0, 1535, 1);
        Due.be("many of one end", x.left(0), 72);
        x.heard(0, 0, 0);
        x.heard(0, 0, 1);
        Due.be("two ends of one sort", x.left(0), 0);
        Due.be("another district", x.left(1), 72);
        // A FORM that holds nowhere (what<0) or everywhere (not told by <, but by oath<2) parts nothing.
        x.heard(1, 0, 1);
        x.heard(1, 4, 0);
        int[] forms = {49, 52, 53, 56};
        Due.be("the oath parts", x.left(1), 4);
        for (int i = 0; i < 4; i++) {
            Due.be("form " + i, x.form(1, i), forms[i]);
        }
    }

    /** Promise 24: "The i-th of them. NONE: none such" */
    static void formNone() {
        Still.rich("form none", x -> {
            Due.be("eight are left", x.left(0), 8);
            for (int i : new int[] {-1, LOW, 8, 72, HIGH}) {
                Due.be("form(0, " + i + ")", x.form(0, i), NONE);
            }
            Due.be("nothing left", x.left(1), 0);
            Due.be("form of nothing", x.form(1, 0), NONE);
            for (int i : new int[] {-1, 72, 73}) {
                Due.be("form(2, " + i + ") of all", x.form(2, i), NONE);
            }
            for (int d : new int[] {-1, LOW, 3, 7, 8, HIGH}) {
                Due.be("form(" + d + ", 0)", x.form(d, 0), NONE);
            }
        });
    }

    /** Terms 3: "a number 0 .. 3 (72 of them: number f times 12, sign times 4 (0 <, 1 =, 2 >), and the number)" */
    static void theFirstAndTheLastForm() {
        OneCode x = districts(1);
        Due.be("the first", x.form(0, 0), 0);
        Due.be("the last", x.form(0, 71), 71);
        OneCode y = World.rich();
        int[] due = {1, 4, 5, 8, 49, 52, 53, 56};
        for (int i = 0; i < 8; i++) {
            Due.be("form " + i, y.form(0, i), due[i]);
        }
        OneCode z = districts(1);
        z.heard(0, 3, 1);
        z.heard(0, 2, 0);
        // goods<3, goods=2, goods=3, goods>2: the last but one of all.
        int[] goods = {63, 66, 67, 70};
        Due.be("four", z.left(0), 4);
        for (int i = 0; i < 4; i++) {
            Due.be("form of goods " + i, z.form(0, i), goods[i]);
        }
    }

    // ---- parts, quarrel

    /** Promise 25: "NONE: district, what, nothing is LEFT" - district and what. */
    static void partsNone() {
        Still.rich("parts none", x -> {
            for (int d : new int[] {-1, LOW, 3, 7, 8, HIGH}) {
                Due.be("parts(" + d + ", 0)", x.parts(d, 0), NONE);
                Due.be("parts(" + d + ", 1)", x.parts(d, 1), NONE);
            }
            for (int what : new int[] {-1, LOW, 2, HIGH}) {
                Due.be("parts(0, " + what + ")", x.parts(0, what), NONE);
            }
        });
    }

    /** Promise 25: "nothing is LEFT" */
    static void partsOfNothing() {
        Still.rich("parts of nothing", x -> {
            Due.be("nothing is left", x.left(1), 0);
            Due.be("no sort", x.parts(1, 0), NONE);
            Due.be("no lesser part", x.parts(1, 1), NONE);
        });
    }

    /** Terms 3: "the lesser of how many hold in it and how many do not is greatest; of several the least" */
    static void partsOfOneAndOfSeveral() {
        OneCode x = districts(1);
        x.heard(0, Due.sort(0, 0, 0, 0, 0, 2), 1);
        for (int goods : new int[] {0, 1, 3}) {
            x.heard(0, Due.sort(0, 0, 0, 0, 0, goods), 0);
        }
        Due.be("goods=2 alone is left", x.left(0), 1);
        Due.be("of one that nothing parts the least sort", x.parts(0, 0), 0);
        Due.be("none in the lesser part", x.parts(0, 1), 0);
        OneCode y = districts(1);
        Due.be("of all the first sort", y.parts(0, 0), 0);
        Due.be("of all: what=0, what<1, 2, 3 and so on", y.parts(0, 1), 6 * 4);
        OneCode z = districts(1);
        z.heard(0, Due.sort(2, 0, 0, 0, 0, 0), 1);
        z.heard(0, Due.sort(1, 0, 0, 0, 0, 0), 0);
        // Left are what<2, what=1, what=2, what>1: two of them hold in either, one in what 0 or 3.
        Due.be("four", z.left(0), 4);
        Due.be("half of them", z.parts(0, 1), 2);
        Due.be("the least sort of several", z.parts(0, 0), Due.sort(1, 0, 0, 0, 0, 0));
        OneCode w = districts(1);
        w.heard(0, 2, 1);
        w.heard(0, 1, 0);
        Due.be("half of four, by the goods", w.parts(0, 1), 2);
        Due.be("not the first sort, but the second", w.parts(0, 0), 1);
    }

    /** Promise 26: "NONE: district, what, none" - district and what. */
    static void quarrelNone() {
        Still.rich("quarrel none", x -> {
            for (int d : new int[] {-1, LOW, 3, 7, 8, HIGH}) {
                Due.be("quarrel(" + d + ", 0)", x.quarrel(d, 0), NONE);
                Due.be("quarrel(" + d + ", 1)", x.quarrel(d, 1), NONE);
            }
            for (int what : new int[] {-1, LOW, 2, HIGH}) {
                Due.be("quarrel(1, " + what + ")", x.quarrel(1, what), NONE);
            }
        });
    }

    /** Promise 26: "the first CASE (what 0), the second (1). NONE: district, what, none" - none. */
    static void quarrelOfNone() {
        OneCode x = districts(2);
        Due.be("no cases", x.quarrel(0, 0), NONE);
        Due.be("no cases, second", x.quarrel(0, 1), NONE);
        x.heard(0, 7, 1);
        Due.be("one case", x.quarrel(0, 0), NONE);
        x.heard(0, 7, 1);
        x.heard(0, 8, 0);
        x.heard(1, 7, 0);
        Due.be("one end, another sort, another district", x.quarrel(0, 0), NONE);
        Due.be("and no second", x.quarrel(0, 1), NONE);
        Due.be("of the other", x.quarrel(1, 0), NONE);
        x.heard(0, 7, 0);
        Due.be("then one", x.quarrel(0, 0), 0);
        Due.be("and the second", x.quarrel(0, 1), 4);
    }

    /** Terms 3: "the first two CASES of it (by the first, then the second) of one SORT with unlike ENDS" */
    static void theFirstQuarrelOfSeveral() {
        OneCode x = districts(1);
        x.heard(0, 7, 1);
        x.heard(0, 8, 1);
        x.heard(0, 8, 0);
        Due.be("the first so far", x.quarrel(0, 0), 1);
        Due.be("its second", x.quarrel(0, 1), 2);
        x.heard(0, 7, 1);
        x.heard(0, 7, 203);
        x.heard(0, 7, 0);
        Due.be("by the first", x.quarrel(0, 0), 0);
        Due.be("then by the second", x.quarrel(0, 1), 4);
    }

    // ---- moves

    /** World's RULE 3 of custom 1 is "void", 7 is SAVED; THE TAPE has a sound text. */
    private static OneCode taped() {
        OneCode x = World.untaped();
        Due.feed(x, "void if age=1");
        return x;
    }

    /** Promise 27: "NONE: rule, what" */
    static void movesNone() {
        Still.after("moves none", CasesEdgesTest::taped, x -> {
            for (int rule : new int[] {-1, LOW, 8, 79, 80, HIGH}) {
                Due.be("moves(" + rule + ", 0)", x.moves(rule, 0), NONE);
            }
            for (int what : new int[] {-1, LOW, 3, HIGH}) {
                Due.be("moves(0, " + what + ")", x.moves(0, what), NONE);
            }
        });
        OneCode x = World.rich();
        Due.be("none ahead of a fault, rule", x.moves(8, 0), NONE);
        Due.be("none ahead of a fault, what", x.moves(0, 3), NONE);
        Due.be("then the fault", x.moves(0, 0), -21);
    }

    /** Promise 27: "-10 less the FAULT (THE TAPE stays always)" */
    static void movesByAFault() {
        Still.rich("moves fault", x -> {
            for (int what = 0; what <= 2; what++) {
                Due.be("fault, what " + what, x.moves(3, what), -21);
            }
            Due.be("the tape stays", x.count(9), 11);
        });
        Still.after("moves of an empty tape", World::untaped, x -> Due.be("fault", x.moves(3, 0), -10));
    }

    /** Promise 27: "(THE TAPE stays always)" */
    static void movesLeavesAll() {
        Still.after("moves", CasesEdgesTest::taped, x -> {
            // Where age is not 1: VOID becomes a GAP, a CLASH (of house 2) becomes HOLDS.
            Due.be("sorts", x.moves(3, 0), 768 + 384);
            Due.be("people", x.moves(3, 1), (768 + 384) * 7);
            Due.be("cases", x.moves(3, 2), 2);
            Due.be("saved", x.moves(7, 0), 384 + 288);
            Due.be("the tape stays", x.count(9), 13);
        });
    }

    /** Terms 3: "SORTS with another ANSWER of its BODY (of its KIND's alone in the CODE)" - none, and all. */
    static void nothingAndAllMoved() {
        OneCode x = districts(6);
        Due.be("rule", Due.custom(x, 0, 0, "void"), 0);
        x.heard(0, 5, 0);
        Due.feed(x, "void");
        for (int what = 0; what <= 2; what++) {
            Due.be("its own text, " + what, x.moves(0, what), 0);
        }
        Due.feed(x, " if age=9");
        Due.be("all sorts", x.moves(0, 0), 1536);
        Due.be("people of both its districts", x.moves(0, 1), 1536 * 7);
        Due.be("the case", x.moves(0, 2), 1);
        x.way(0, 0);
        Due.be("a greater rank", Due.custom(x, 0, 1, "holds"), 1);
        Due.feed(x, "to 0");
        Due.be("beneath a greater rank", x.moves(0, 0), 0);
        x.way(0, 0);
        Due.be("line", Due.line(x, 0, "void"), 2);
        Due.be("saved of a greater rank", Due.rule(x, "void", 5, 5, 9, 0, 0), 3);
        Due.feed(x, "to 0");
        Due.be("its kind alone", x.moves(2, 0), 1536);
        Due.be("no district has the code", x.moves(2, 1), 0);
        Due.be("no case there", x.moves(2, 2), 0);
    }

    /** Terms 3: "with the text of a RULE as THE TAPE has it in place of its own, AS OF and KNOWN NOW" */
    static void movesOfARuleInForceOnly() {
        OneCode x = districts(1);
        Due.be("from day 2", Due.rule(x, "void", 0, 1, 0, 2, 0), 0);
        Due.be("sworn", Due.rule(x, "void", 0, 2, 1, 0, 2), 1);
        Due.feed(x, "holds");
        Due.be("a sworn one counts", x.moves(1, 0), 1536);
        x.fall(1);
        Due.be("it counts no more", x.moves(1, 0), 0);
        x.days(1);
        Due.be("the day ahead", x.moves(0, 0), 0);
        x.days(1);
        Due.be("on its day", x.moves(0, 0), 1536);
        x.strike(0, 3);
        Due.be("ahead of the strike", x.moves(0, 0), 1536);
        x.days(1);
        Due.be("struck", x.moves(0, 0), 0);
    }

    /** Promise 27: "SORTS (what 0), PEOPLE (1), CASES (2)" - the most, and none. */
    static void movesTheMostAndNone() {
        OneCode x = new OneCode();
        Due.custom(x, 0, 0, "void");
        Due.feed(x, "holds");
        Due.be("no people", x.moves(0, 1), 0);
        Due.be("no cases", x.moves(0, 2), 0);
        for (int d = 0; d < 8; d++) {
            x.district(0, 99);
        }
        for (int i = 0; i < 100; i++) {
            x.heard(i % 8, i, 1);
        }
        Due.be("all sorts", x.moves(0, 0), 1536);
        Due.be("the most people", x.moves(0, 1), 1536 * 99 * 8);
        Due.be("all cases", x.moves(0, 2), 100);
        Due.be("the tape's text as a line", x.rule(5, 4, 0, 0, 0), 1);
        Due.feed(x, "void");
        Due.be("all its sorts", x.moves(1, 0), 1536);
        Due.be("none under the code", x.moves(1, 1), 0);
        Due.be("no cases under the code", x.moves(1, 2), 0);
    }

    /** Terms 3: "PEOPLE of the DISTRICTS under it NOW (a CUSTOM's: where the CODE is not in force; the CODE's: where it is), times these" */
    static void movesFromTheDayOfTheCode() {
        OneCode x = districts(6);
        Due.custom(x, 0, 0, "void");
        Due.line(x, 0, "void");
        x.heard(5, 9, 0);
        x.carried(5, 2);
        Due.feed(x, "holds");
        x.days(1);
        Due.be("custom, the day ahead", x.moves(0, 1), 1536 * 7);
        Due.be("code, the day ahead", x.moves(1, 1), 0);
        Due.be("case of the custom", x.moves(0, 2), 1);
        Due.be("no case of the code", x.moves(1, 2), 0);
        x.days(1);
        Due.be("custom, on the day", x.moves(0, 1), 1536);
        Due.be("code, on the day", x.moves(1, 1), 1536 * 6);
        Due.be("no case of the custom", x.moves(0, 2), 0);
        Due.be("case of the code", x.moves(1, 2), 1);
    }

    /** Terms 3: "PEOPLE of the DISTRICTS under it NOW (a CUSTOM's: where the CODE is not in force; the CODE's: where it is), times these" - with the CODE from the first DAY on. */
    static void movesWithTheCodeFromTheFirstDay() {
        OneCode x = districts(6);
        Due.custom(x, 0, 0, "void");
        Due.line(x, 0, "void");
        x.heard(5, 9, 0);
        Due.be("from day 0 on", x.carried(5, 0), 1);
        Due.feed(x, "holds");
        Due.be("custom, on day 0", x.moves(0, 1), 1536);
        Due.be("code, on day 0", x.moves(1, 1), 1536 * 6);
        Due.be("no case of the custom", x.moves(0, 2), 0);
        Due.be("case of the code", x.moves(1, 2), 1);
    }
}
