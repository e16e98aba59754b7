/**
 * What the document says besides its boundary cases: a test for each such sentence, with the sentence
 * above it. QuotesTest sees to it that no sentence of the document is without one.
 */
public final class SentencesTest {
    private static final int NONE = -1, STATE = -3;
    private static final int CLASH = -2, GAP = -3;
    private static final String[] NAMES = {"what", "age", "house", "kids", "oath", "goods"};
    private static final int[] SIZES = {4, 4, 3, 4, 2, 4};
    // As many as go, each with a RULE of any text, into the 512 calls of an object.
    private static final int DEEDS = 13;

    public static void main(String[] args) throws Exception {
        Each.run(SentencesTest.class);
    }

    private static int fieldOf(int sort, int field) {
        int rest = sort;
        for (int f = 5; f > field; f--) {
            rest /= SIZES[f];
        }
        return rest % SIZES[field];
    }

    // ---- all of it in one run

    /**
     * What it is: "One code for many customs: districts each under a custom till the code comes in force there; rules
     * written, sworn to by witnesses who may fall, shown by cases; texts read byte by byte; what follows from facts, where
     * two bodies of rules part, where one quarrels with itself or says nothing, and the least facts that show it; what a
     * word changed moves; deeds saved; courts between two lands; the dead whose goods are parted to the coin; ways to write
     * lines that keep most; sections that must carry; lands and days by going through."
     */
    static void allOfItInOneRun() {
        OneCode x = new OneCode();
        Due.be("a district under a custom", x.district(0, 10), 0);
        Due.be("another", x.district(1, 5), 1);
        Due.be("till the code comes in force there", x.carried(0, 20), 1);
        Due.be("written", Due.rule(x, "holds", 0, 1, 1, 0, 0), 0);
        Due.be("sworn to by witnesses", Due.rule(x, "owed 10 if oath=1", 0, 2, 2, 0, 2), 1);
        Due.be("shown by cases", Due.rule(x, "holds if oath=1", 1, 3, 1, 0, 0), 2);
        Due.be("texts read byte by byte", Due.rule(x, "owed 1O", 0, 1, 0, 0, 0), -16);
        Due.be("what follows from facts", x.answer(0, 4, 0, 0), 110);
        Due.be("where two bodies part", x.unlike(0, 1, 0), 1536);
        Due.be("where one says nothing", x.wrong(1, 1, 0), 768);
        Due.be("the least facts that show it", x.wrong(1, 1, 2), 16);
        Due.feed(x, "holds unless oath=1");
        Due.be("what a word changed moves", x.moves(2, 1), 1536 * 5);
        Due.be("the tape goes on", x.rule(1, 1, 1, 0, 0), 3);
        Due.be("where one quarrels with itself", x.wrong(1, 0, 0), 0);
        Due.be("witnesses may fall", x.fall(1), 1);
        Due.be("and what they swore to", x.answer(0, 4, 0, 0), 1);
        Due.be("a deed", x.deed(0, 4), 0);
        Due.be("one dies", x.person(0, -1, 3, 0, 0, 101), 0);
        Due.be("its child", x.person(1, 0, 0, 0, 0, 0), 1);
        Due.be("its child", x.person(1, 0, 0, 0, 0, 0), 2);
        Due.be("it dies", x.die(0), 1);
        Due.be("parted to the coin", x.personOf(1, 2) - x.personOf(2, 2), 1);
        Due.be("a line", Due.line(x, 0, "void"), 4);
        Due.be("days", x.days(20), 20);
        Due.be("deeds saved", x.deedEnd(0, 20, 20), 1);
        Due.be("by the code", x.law(0, 4, 20, 20, 20), 0);
        Due.be("courts between two lands", x.court(0, 1, 4, 20), -4);
        Due.be("a way to write lines", Due.way(x, 0, 1, "to 0"), 0);
        Due.be("another", Due.way(x, 0, 1, "holds if oath=1"), 1);
        Due.be("that keeps most", x.near(0), 1);
        Due.be("so many", x.near(1), 768 * 15);
        Due.be("a section", x.section(), 0);
        Due.be("a line on the table", x.line(3), 0);
        Due.be("it hates it", x.like(0, 0, -1), 0);
        Due.be("so it must be yielded", x.least(1), 3);
        Due.be("a land waits", x.teach(1, 1, 4), 0);
        Due.be("so it is taught first", x.taught(0), 1);
        Due.be("and waits a month", x.waits(), 4);
    }

    // ---- FACTS, RULES

    /**
     * Terms 1: "A SORT of facts is a number: what times 4 and age, that times 3 and house, that times 4
     * and kids, that times 2 and oath, that times 4 and goods"
     * - each SORT is fitted by the RULES of its six FIELDS alone.
     */
    static void sortsAreNumbers() {
        for (int first = 0; first < 1536; first += 12) {
            OneCode x = new OneCode();
            for (int f = 0; f < 6; f++) {
                for (int v = 0; v < SIZES[f]; v++) {
                    Due.custom(x, 0, 0, "void if " + NAMES[f] + "=" + v);
                }
            }
            for (int sort = first; sort < first + 12; sort++) {
                int rule = 0;
                for (int f = 0; f < 6; f++) {
                    for (int v = 0; v < SIZES[f]; v++) {
                        Due.be("fits " + sort + " " + NAMES[f] + "=" + v, x.fits(rule, sort), fieldOf(sort, f) == v ? 1 : 0);
                        rule++;
                    }
                }
            }
        }
    }

    /**
     * Terms 1: "each of a KIND: 0 RULE; 1 WRITTEN, under RULE; 2 SWORN, under RULE; 3 SHOWN, under RULE;
     * 4 LINE, under WRITTEN; 5 SAVED, under LINE. BODIES:"
     * Promise 47: "A RULE taken for one of KIND k (0 .. 5), or one under that (also by others between): its KIND."
     */
    static void kindsStandUnderKinds() {
        OneCode x = new OneCode();
        int[] above = {-1, 0, 0, 0, 1, 4};
        for (int kind = 1; kind <= 5; kind++) {
            Due.be("rule", Due.rule(x, "void", kind < 4 ? 0 : 5, kind, 0, 0, kind == 2 ? 2 : 0), kind - 1);
        }
        for (int kind = 1; kind <= 5; kind++) {
            for (int k = 0; k <= 5; k++) {
                boolean under = false;
                for (int at = kind; at >= 0; at = above[at]) {
                    under |= at == k;
                }
                Due.be("kind " + kind + " taken for " + k, x.taken(kind - 1, k), under ? kind : -13);
            }
        }
    }

    /**
     * Promise 4: "THE TAPE is a RULE of a KIND (1 .. 5) of a BODY (0 .. 5), from a DAY on, with WITNESSES
     * (of a SWORN one; else 0): its number;"
     * Promise 7: "Of a RULE: 0 KIND, 1 BODY, 2 RANK, 3 from, 4 END, 5 how many TESTS, 6 WITNESSES that stand
     * (0 of others), 7 from which DAY it is STRUCK (-1)."
     */
    static void rulesTellWhatTheyAre() {
        OneCode x = new OneCode();
        int[][] rules = {{4, 1, 7, 3999, 0}, {3, 2, 6, 12, 20}, {2, 3, 5, 13, 0}, {5, 4, 4, 14, 0}, {5, 5, 3, 15, 0}};
        String[] texts = {"void", "holds if age=1", "owed 7 if age=1 or kids=2", "owed 42 unless age=1 and age=2 and oath>0",
            "to 3 if what=1 or what=2 or what=3 or goods<9 and oath=1"};
        int[] ends = {0, 1, 107, 142, 203};
        int[] tests = {0, 1, 2, 3, 5};
        for (int i = 0; i < 5; i++) {
            Due.feed(x, texts[i]);
            int[] r = rules[i];
            Due.be("rule", x.rule(r[0], r[1], r[2], r[3], r[4]), i);
        }
        for (int i = 0; i < 5; i++) {
            int[] r = rules[i];
            int[] want = {r[1], r[0], r[2], r[3], ends[i], tests[i], r[4], -1};
            for (int what = 0; what < 8; what++) {
                Due.be("ruleOf(" + i + ", " + what + ")", x.ruleOf(i, what), want[what]);
            }
        }
    }

    /**
     * Promise 5: "A RULE is STRUCK from a DAY on: 1."
     * Promise 7: "7 from which DAY it is STRUCK (-1)"
     */
    static void struckFromADay() {
        OneCode x = new OneCode();
        Due.custom(x, 0, 0, "void");
        Due.custom(x, 0, 0, "void");
        Due.be("strike", x.strike(1, 7), 1);
        Due.be("struck from", x.ruleOf(1, 7), 7);
        Due.be("the other not", x.ruleOf(0, 7), -1);
        Due.be("both ahead of it", x.why(0, 0, 6, 0, 1), 1);
        Due.be("one from it on", x.why(0, 0, 7, 0, 1), NONE);
        Due.be("the other still", x.why(0, 0, 7, 0, 0), 0);
    }

    /** Promise 6: "A WITNESS of a RULE FELL: how many stand." - of that RULE, not of others. */
    static void witnessesOfARuleFall() {
        OneCode x = new OneCode();
        Due.rule(x, "void", 0, 2, 0, 0, 3);
        Due.rule(x, "holds", 1, 2, 0, 0, 5);
        Due.be("of five four", x.fall(1), 4);
        Due.be("of three two", x.fall(0), 2);
        Due.be("of four three", x.fall(1), 3);
        Due.be("two stand", x.ruleOf(0, 6), 2);
        Due.be("three stand", x.ruleOf(1, 6), 3);
    }

    /**
     * Terms 1: "In force AS OF a, KNOWN on k: RULES KNOWN on k, with a DAY no more than a, not STRUCK (as
     * KNOWN on k) from a or an earlier DAY, SWORN ones with 2 standing (as KNOWN on k)."
     * Promise 9: "ANSWER of a BODY (LINES of the CODE) for a SORT, AS OF a, KNOWN on k."
     */
    static void inForceAsKnown() {
        OneCode x = new OneCode();
        x.days(4);
        Due.rule(x, "to 1", 1, 1, 0, 6, 0);
        Due.rule(x, "to 2", 2, 2, 0, 0, 3);
        Due.rule(x, "to 3", 5, 4, 0, 2, 0);
        x.days(3);
        x.strike(0, 9);
        x.fall(1);
        x.days(2);
        x.fall(1);
        x.strike(2, 3);
        for (int a = 0; a <= 11; a++) {
            for (int k = 0; k <= 11; k++) {
                boolean struck = k >= 7 && a >= 9;
                boolean first = k >= 4 && a >= 6 && !struck;
                Due.be("of custom 1 as of " + a + " known on " + k, x.answer(1, 40, a, k), first ? 201 : GAP);
                Due.be("of custom 2 as of " + a + " known on " + k, x.answer(2, 40, a, k), k >= 4 && k < 9 ? 202 : GAP);
                boolean line = k >= 4 && a >= 2 && !(k >= 9 && a >= 3);
                Due.be("of the code as of " + a + " known on " + k, x.answer(5, 40, a, k), line ? 203 : GAP);
            }
        }
    }

    /**
     * Terms 1: "ANSWER of a BODY for a SORT, AS OF a, KNOWN on k, by RULES of some KINDS: of those in force
     * that fit it, those of the greatest RANK: their END, if all have one; else a CLASH (-2); without any a
     * GAP (-3)."
     */
    static void answerByTheGreatestRank() {
        OneCode x = new OneCode();
        Due.rule(x, "to 0 if kids>0", 0, 1, 9, 0, 0);
        Due.rule(x, "to 1 if kids>1", 0, 3, 9, 0, 0);
        Due.rule(x, "to 1 if kids=1 or goods=3", 0, 2, 8, 0, 2);
        Due.rule(x, "to 1 if goods>1", 0, 3, 8, 0, 0);
        Due.rule(x, "to 2", 0, 1, 1, 5, 0);
        Due.rule(x, "to 3", 5, 5, 9, 0, 0);
        Due.rule(x, "void if kids=0", 1, 1, 9, 0, 0);
        Due.be("kids 1: the one of rank 9", x.answer(0, Due.sort(0, 0, 0, 1, 0, 0), 0, 0), 200);
        Due.be("kids 2: two ends of rank 9", x.answer(0, Due.sort(0, 0, 0, 2, 0, 0), 0, 0), CLASH);
        Due.be("goods 3: two of one end", x.answer(0, Due.sort(0, 0, 0, 0, 0, 3), 0, 0), 201);
        Due.be("goods 1: none in force", x.answer(0, Due.sort(0, 0, 0, 0, 0, 1), 4, 0), GAP);
        Due.be("goods 1: one in force", x.answer(0, Due.sort(0, 0, 0, 0, 0, 1), 5, 0), 202);
        Due.be("the code: no saved one counts", x.answer(5, 0, 9, 9), GAP);
        Due.be("custom 1 by its own", x.answer(1, 0, 9, 9), 0);
        Due.be("custom 1: none that fits", x.answer(1, Due.sort(0, 0, 0, 1, 0, 0), 9, 9), GAP);
    }

    /**
     * Terms 1: "of those in force that fit it, those of the greatest RANK: their END, if all have one; else a
     * CLASH (-2);" - any two ENDS that are not one, be they of one sort or not.
     */
    static void anyTwoEndsClash() {
        String[] texts = {"void", "holds", "owed 0", "owed 1", "owed 99", "to 0", "to 1", "to 2", "to 3"};
        int[] ends = {0, 1, 100, 101, 199, 200, 201, 202, 203};
        for (int one = 0; one < ends.length; one++) {
            OneCode x = new OneCode();
            for (int other = 0; other < ends.length; other++) {
                Due.custom(x, 3, 4, texts[one]);
                Due.rule(x, texts[other], 3, 3, 4, 0, 0);
                Due.rule(x, texts[one], 3, 2, 4, 0, 2);
                int due = one == other ? ends[one] : CLASH;
                Due.be(texts[one] + " and " + texts[other], x.answer(3, 700, 0, 0), due);
                Due.be("clashes", x.wrong(3, 0, 0), one == other ? 0 : 1536);
                for (int rule = 0; rule < 3; rule++) {
                    x.strike(3 * other + rule, 0);
                }
            }
        }
    }

    /**
     * Promise 5: "A RULE is STRUCK from a DAY on: 1."
     * Promise 7: "Of a RULE: 0 KIND, 1 BODY, 2 RANK, 3 from, 4 END, 5 how many TESTS, 6 WITNESSES that stand
     * (0 of others), 7 from which DAY it is STRUCK (-1)."
     * Promise 8: "Whether a RULE fits a SORT (in force or not): 1, 0."
     * Promise 45: "An ACT of a RULE with x."
     * Promise 47: "A RULE taken for one of KIND k (0 .. 5), or one under that (also by others between): its KIND."
     * - also of RULES that are not in force: of a later DAY, STRUCK, or with no WITNESSES that stand.
     */
    static void rulesNotInForce() {
        OneCode x = new OneCode();
        Due.rule(x, "owed 12 if age>1", 2, 2, 6, 900, 1);
        Due.be("the witness fell", x.fall(0), 0);
        for (int struck = 0; struck < 2; struck++) {
            int[] due = {2, 2, 6, 900, 112, 1, 0, struck == 0 ? -1 : 800};
            for (int what = 0; what < due.length; what++) {
                Due.be("ruleOf(0, " + what + ")", x.ruleOf(0, what), due[what]);
            }
            Due.be("fits", x.fits(0, 200), 1);
            Due.be("fits not", x.fits(0, 100), 0);
            Due.be("taken", x.taken(0, 2), 2);
            Due.be("taken for a rule", x.taken(0, 0), 2);
            Due.be("taken for a line", x.taken(0, 4), -13);
            Due.be("holds", x.act(0, 0, 4), 30);
            Due.be("its trace", x.trace(0), 30);
            Due.be("struck, ahead of its day", x.strike(0, 800), struck == 0 ? 1 : STATE);
        }
        Due.be("still none stand", x.fall(0), STATE);
    }

    /** Promise 10: "The i-th RULE, by numbers, of those that give that ANSWER (of a CLASH: of the greatest RANK)." */
    static void givers() {
        OneCode x = new OneCode();
        int[] ranks = {3, 5, 2, 5, 5, 5, 1};
        String[] texts = {"void", "void", "void", "void if oath=1", "holds if oath=1", "void", "to 1"};
        for (int i = 0; i < ranks.length; i++) {
            Due.custom(x, 2, ranks[i], texts[i]);
        }
        int[] ofVoid = {1, 5, NONE};
        int[] ofClash = {1, 3, 4, 5, NONE};
        for (int i = 0; i < ofVoid.length; i++) {
            Due.be("void by " + i, x.why(2, 0, 0, 0, i), ofVoid[i]);
        }
        for (int i = 0; i < ofClash.length; i++) {
            Due.be("clash by " + i, x.why(2, 4, 0, 0, i), ofClash[i]);
        }
    }

    // ---- DISTRICTS, COURTS

    /**
     * Promise 11: "A DISTRICT: its number."
     * Terms 2: "DISTRICTS 0 .. 7, as they come: a CUSTOM,"
     * - LAW in it is that of its own CUSTOM.
     */
    static void districtsUnderCustoms() {
        OneCode x = new OneCode();
        for (int custom = 0; custom < 5; custom++) {
            Due.custom(x, custom, 0, "owed " + custom);
        }
        int[] customs = {3, 0, 4, 4, 2, 1};
        for (int i = 0; i < customs.length; i++) {
            Due.be("district", x.district(customs[i], 5), i);
        }
        for (int i = 0; i < customs.length; i++) {
            Due.be("law in " + i, x.law(i, 77, 0, 0, 0), 100 + customs[i]);
        }
    }

    /** Custom 0 says owed f's own END by the DAY; LINES say owed 10 and more, SAVED ones 20 and more. */
    private static OneCode lawful() {
        OneCode x = new OneCode();
        x.district(0, 1);
        x.carried(0, 5);
        for (int day = 0; day < 8; day++) {
            Due.rule(x, "owed " + day, 0, 1, day, day, 0);
            Due.rule(x, "owed 1" + day, 5, 4, day, day, 0);
            Due.rule(x, "owed 2" + day + " if oath=1", 5, 5, day, day, 0);
        }
        return x;
    }

    private static int lawDue(int sort, int f, int j) {
        if (j < 5) {
            return 100 + f;
        }
        return f >= 5 ? 110 + f : sort / 4 % 2 == 1 ? 120 + j : 100 + f;
    }

    /**
     * Terms 2: "LAW there for facts of DAY f, judged on DAY j (f at most), KNOWN on k: if the CODE is not in
     * force there on j: ANSWER of the CUSTOM AS OF f. If it was on f: ANSWER of the CODE's LINES (KIND 4 alone)
     * AS OF f. Else ANSWER of its SAVED ones AS OF j, and, if that is a GAP, of the CUSTOM AS OF f."
     * Promise 13: "LAW in a DISTRICT for a SORT of DAY f, judged on j, KNOWN on k."
     */
    static void lawOfDays() {
        OneCode x = lawful();
        for (int f = 0; f < 8; f++) {
            for (int j = f; j < 8; j++) {
                for (int sort = 0; sort < 8; sort += 4) {
                    Due.be("law " + sort + " of " + f + " on " + j, x.law(0, sort, f, j, 0), lawDue(sort, f, j));
                }
            }
        }
        x.days(3);
        Due.rule(x, "to 0", 0, 1, 9, 0, 0);
        Due.rule(x, "to 1", 5, 4, 9, 0, 0);
        Due.rule(x, "to 2", 5, 5, 9, 0, 0);
        int[][] days = {{1, 2, 200}, {4, 4, 200}, {6, 7, 201}, {5, 5, 201}, {1, 7, 202}, {4, 5, 202}};
        for (int[] d : days) {
            Due.be("known ahead of these", x.law(0, 0, d[0], d[1], 2), lawDue(0, d[0], d[1]));
            Due.be("known when these are", x.law(0, 0, d[0], d[1], 3), d[2]);
        }
        x.days(7);
        x.strike(24, 0);
        x.strike(25, 0);
        x.strike(26, 0);
        for (int[] d : days) {
            Due.be("struck, not known on 9", x.law(0, 0, d[0], d[1] + 20, 9), d[0] >= 5 ? 201 : 202);
            Due.be("struck, known on 10", x.law(0, 0, d[0], d[1] + 20, 10), d[0] >= 5 ? 110 + d[0] : 100 + d[0]);
        }
    }

    /**
     * Terms 2: "of a DISTRICT, a SORT, done on NOW; END of one, judged on j, KNOWN on k: LAW there for its
     * SORT of its DAY."
     * Promise 14: "A DEED is done: its number."
     * Promise 15: "END of a DEED, judged on j, KNOWN on k."
     */
    static void deedsHaveTheirDay() {
        OneCode x = lawful();
        x.district(1, 1);
        for (int day = 0; day < 8; day++) {
            Due.be("deed", x.deed(0, 0), 3 * day);
            Due.be("deed", x.deed(0, 4), 3 * day + 1);
            Due.be("deed elsewhere", x.deed(1, 4), 3 * day + 2);
            x.days(1);
        }
        for (int day = 0; day < 8; day++) {
            for (int j = day; j < 8; j++) {
                Due.be("of day " + day + " on " + j, x.deedEnd(3 * day, j, 0), lawDue(0, day, j));
                Due.be("with oath, of day " + day + " on " + j, x.deedEnd(3 * day + 1, j, 0), lawDue(4, day, j));
            }
            Due.be("elsewhere", x.deedEnd(3 * day + 2, 7, 0), GAP);
        }
        Due.rule(x, "to 3", 1, 1, 0, 0, 0);
        Due.be("known now", x.deedEnd(2, 8, 8), 203);
        Due.be("not known the day ahead", x.deedEnd(2, 8, 7), GAP);
    }

    /**
     * Terms 2: "A COURT between two DISTRICTS: LAW of either; where they are one, that; else by its RULE
     * (told: 0 of the first, 1 of the second, 2 it says nothing: -4)."
     */
    static void courtsBetweenTwo() {
        OneCode x = new OneCode();
        x.district(0, 1);
        x.district(1, 1);
        Due.custom(x, 0, 0, "to 0 if goods<2");
        Due.custom(x, 1, 0, "to 1 if goods=1 or goods=2");
        Due.custom(x, 1, 0, "to 0 if goods=0");
        int[] ofFirst = {200, 200, GAP, GAP};
        int[] ofSecond = {200, 201, 201, GAP};
        for (int r = 2; r >= 0; r--) {
            x.courts(r);
            for (int goods = 0; goods < 4; goods++) {
                boolean one = ofFirst[goods] == ofSecond[goods];
                int want = one || r == 0 ? ofFirst[goods] : r == 1 ? ofSecond[goods] : -4;
                Due.be("court for goods " + goods + " by rule " + r, x.court(0, 1, goods, 0), want);
            }
        }
    }

    /** Nothing but RULES told on DAY 20: of each BODY one from DAY 0 on (END owed BODY), another from DAY 22 on. */
    private static OneCode toldOnDay20() {
        OneCode x = new OneCode();
        x.days(20);
        for (int body = 0; body <= 5; body++) {
            Due.rule(x, "owed " + body, body, body < 5 ? 1 : 4, 0, 0, 0);
            Due.rule(x, "holds", body, body < 5 ? 3 : 4, 0, 22, 0);
        }
        return x;
    }

    /**
     * Terms 2: "UNLIKE of two BODIES (LINES of the CODE), AS OF and KNOWN NOW: SORTS with unlike ANSWERS"
     * Terms 2: "CLASHES, GAPS of one: SORTS with that ANSWER."
     */
    static void bodiesAsOfAndKnownNow() {
        OneCode x = toldOnDay20();
        for (int turn = 0; turn < 2; turn++) {
            for (int a = 0; a <= 5; a++) {
                for (int b = 0; b <= 5; b++) {
                    Due.be("unlike " + a + " " + b, x.unlike(a, b, 0), a == b || turn == 1 ? 0 : 1536);
                }
                Due.be("clashes of " + a, x.wrong(a, 0, 0), turn == 0 ? 0 : 1536);
                Due.be("gaps of " + a, x.wrong(a, 1, 0), 0);
            }
            // All BODIES clash when the others come in force.
            x.days(turn == 0 ? 2 : 1);
        }
        for (int rule = 0; rule < 12; rule++) {
            x.strike(rule, 24);
        }
        Due.be("still clashes", x.wrong(3, 0, 0), 1536);
        x.days(1);
        Due.be("gaps, as all are struck from now on", x.wrong(3, 1, 0), 1536);
        Due.be("no clashes", x.wrong(3, 0, 0), 0);
    }

    /**
     * Terms 3: "with the text of a RULE as THE TAPE has it in place of its own, AS OF and KNOWN NOW"
     * - whatever the RULE's number is.
     */
    static void movesAsOfAndKnownNow() {
        OneCode x = toldOnDay20();
        Due.feed(x, "void");
        for (int rule = 0; rule < 12; rule++) {
            Due.be("moves of " + rule, x.moves(rule, 0), rule % 2 == 0 ? 1536 : 0);
        }
        x.days(2);
        for (int rule = 0; rule < 12; rule++) {
            Due.be("a clash before and behind", x.moves(rule, 0), 0);
        }
        x.strike(0, 22);
        Due.be("alone", x.moves(1, 0), 1536);
        Due.be("struck", x.moves(0, 0), 0);
    }

    /**
     * Promise 16: "LOST DEEDS of a DISTRICT (-1: of all): how many (what 0), the first (1; -1)."
     * Terms 2: "It is LOST, if its END, judged and KNOWN NOW, is another one than judged and KNOWN on its own DAY."
     */
    static void lostAsTheirEndsTell() {
        Dice d = new Dice(16);
        for (int turn = 0; turn < 120; turn++) {
            OneCode x = new OneCode();
            int[] days = new int[DEEDS];
            int[] where = new int[DEEDS];
            for (int i = 0; i < 5; i++) {
                x.district(i % 3, 1);
            }
            for (int i = 0; i < DEEDS; i++) {
                int body = d.chance(50) ? 5 : d.below(3);
                Due.rule(x, d.text(), body, body == 5 ? d.from(4, 5) : d.chance(50) ? 1 : 3, d.below(3), d.below(40), 0);
                where[i] = d.below(5);
                days[i] = x.count(6);
                Due.be("deed", x.deed(where[i], d.below(1536)), i);
                if (d.chance(40)) {
                    x.carried(d.below(5), days[i] + d.below(20));
                }
                x.strike(d.below(2 * DEEDS), d.below(40));
                x.days(d.from(1, 2));
            }
            lostOf(x, days, where);
        }
    }

    private static void lostOf(OneCode x, int[] days, int[] where) {
        int now = x.count(6);
        int[] sums = new int[6];
        int[] firsts = {-1, -1, -1, -1, -1, -1};
        for (int i = DEEDS - 1; i >= 0; i--) {
            if (x.deedEnd(i, now, now) != x.deedEnd(i, days[i], days[i])) {
                sums[where[i]]++;
                sums[5]++;
                firsts[where[i]] = i;
                firsts[5] = i;
            }
        }
        for (int i = 0; i < 6; i++) {
            Due.be("lost in " + i, x.lost(i < 5 ? i : -1, 0), sums[i]);
            Due.be("the first lost in " + i, x.lost(i < 5 ? i : -1, 1), firsts[i]);
        }
    }

    /**
     * Terms 2: "FACTS that show it for such a SORT: the fewest FIELDS, of several the least bits, such that all
     * SORTS that have the same in these are such, too."
     */
    static void factsThatShowIt() {
        String[] texts = {"void if what=3", "void if age=3 and house=2", "void if kids=3 and oath=1 and goods=3",
            "void if goods=0 or what=0 and age=0", "void if oath=0 or age=0", "void unless goods=3 and oath=1",
            "void if age=0 and oath=0 or age=0 and kids=0", "void if kids<2 and goods<2 and what>0", "void unless what=0"};
        int[] fields = {1, 2 | 4, 8 | 16 | 32, 32, 2, 16, 2 | 8, 1 | 8 | 32, 1};
        for (int i = 0; i < texts.length; i++) {
            OneCode x = new OneCode();
            Due.custom(x, 0, 0, texts[i]);
            Due.be("unlike by <" + texts[i] + ">", x.unlike(0, 1, 2), fields[i]);
            Due.be("unlike the other way round", x.unlike(1, 0, 2), fields[i]);
            Due.custom(x, 0, 0, texts[i].replace("void", "holds"));
            Due.be("clashes by it", x.wrong(0, 0, 2), fields[i]);
        }
    }

    // ---- CASES

    /** Promise 21: "A CASE: its number." - of its own DISTRICT, SORT and END. */
    static void casesAreHeard() {
        OneCode x = World.rich();
        Due.be("heard", x.heard(1, 20, 1), 5);
        Due.be("heard elsewhere", x.heard(2, 20, 0), 6);
        Due.be("heard again", x.heard(2, 20, 1), 7);
        Due.be("the first two of one sort", x.quarrel(2, 0), 6);
        Due.be("the second of these", x.quarrel(2, 1), 7);
        Due.be("as before", x.quarrel(1, 0), 2);
    }

    /**
     * Promise 22: "A CASE of a DISTRICT by items i .. i + 6 of a SHEET taken for one of a sort: the six FIELDS,
     * then the END: its number."
     */
    static void casesAreRead() {
        int[][] facts = {{3, 2, 1, 0, 1, 2}, {0, 3, 2, 1, 0, 3}, {1, 1, 2, 2, 1, 1}};
        for (int sheetSort = 0; sheetSort < 3; sheetSort++) {
            OneCode x = new OneCode();
            x.district(0, 1);
            x.district(0, 1);
            x.sheet(1, sheetSort, 21);
            for (int i = 0; i < 21; i++) {
                x.cell(1, i, i % 7 < 6 ? facts[i / 7][i % 7] : 100 + i / 7);
            }
            for (int i = 0; i < 3; i++) {
                int[] f = facts[i];
                Due.be("read", x.read(1, 1, sheetSort, 7 * i), 3 * i);
                Due.be("of that sort and end", x.heard(1, Due.sort(f[0], f[1], f[2], f[3], f[4], f[5]), 100 + i), 3 * i + 1);
                Due.be("no quarrel", x.quarrel(1, 0), NONE);
                Due.be("in the other district", x.heard(0, 0, 0), 3 * i + 2);
            }
            Due.be("another end", x.heard(1, Due.sort(1, 1, 2, 2, 1, 1), 101), 9);
            Due.be("the last was read", x.quarrel(1, 0), 6);
        }
    }

    /** Promise 22: "BAD: a FIELD, the END" - a FIELD below or above, however the others are. */
    static void fieldsOfNoSuchValue() {
        for (int f = 0; f < 6; f++) {
            for (int others = 0; others < 2; others++) {
                OneCode x = new OneCode();
                x.district(0, 1);
                x.sheet(0, 2, 7);
                for (int i = 0; i < 6; i++) {
                    x.cell(0, i, others);
                }
                for (int v : new int[] {-1, -2, SIZES[f], SIZES[f] + 1, Integer.MIN_VALUE, Integer.MAX_VALUE}) {
                    x.cell(0, f, v);
                    Due.be(NAMES[f] + " " + v + ", others " + others, x.read(0, 0, 2, 0), -2);
                }
                for (int v = 0; v < SIZES[f]; v++) {
                    x.cell(0, f, v);
                    Due.be(NAMES[f] + " " + v, x.read(0, 0, 2, 0), v);
                }
            }
        }
    }

    private static boolean holds(int form, int sort) {
        int value = fieldOf(sort, form / 12);
        int number = form % 4;
        int sign = form / 4 % 3;
        return sign == 0 ? value < number : sign == 1 ? value == number : value > number;
    }

    private static boolean isLeft(int form, int[] sorts, int[] ends) {
        int[] only = {-1, -1};
        for (int i = 0; i < sorts.length; i++) {
            int side = holds(form, sorts[i]) ? 1 : 0;
            if (only[side] != -1 && only[side] != ends[i]) {
                return false;
            }
            only[side] = ends[i];
        }
        return true;
    }

    /**
     * Terms 3: "A FORM: a TEST: FIELD, sign, a number 0 .. 3 (72 of them: number f times 12, sign times 4
     * (0 <, 1 =, 2 >), and the number). A FORM is LEFT for a DISTRICT, if all its CASES in which it holds have
     * one END, and all others one."
     * Terms 3: "PARTS: the SORT that parts best those that are LEFT: the lesser of how many hold in it and how
     * many do not is greatest; of several the least."
     * Promise 25: "PARTS: the SORT (what 0), how many the lesser part has (1)."
     */
    static void formsAndPartings() {
        Dice d = new Dice(7);
        for (int turn = 0; turn < 60; turn++) {
            int n = d.from(1, 4);
            int[] sorts = new int[n];
            int[] ends = new int[n];
            OneCode x = new OneCode();
            x.district(0, 1);
            x.district(1, 1);
            for (int i = 0; i < n; i++) {
                sorts[i] = d.below(1536);
                ends[i] = d.below(2);
                x.heard(1, sorts[i], ends[i]);
                x.heard(0, 0, i);
            }
            int seen = 0;
            int[] left = new int[72];
            for (int form = 0; form < 72; form++) {
                if (isLeft(form, sorts, ends)) {
                    left[seen] = form;
                    Due.be("form " + seen, x.form(1, seen), form);
                    seen++;
                }
            }
            Due.be("left", x.left(1), seen);
            Due.be("no form more", x.form(1, seen), NONE);
            partings(x, left, seen);
        }
    }

    private static void partings(OneCode x, int[] left, int n) {
        int best = -1;
        int most = -1;
        for (int sort = 0; sort < 1536; sort++) {
            int held = 0;
            for (int i = 0; i < n; i++) {
                held += holds(left[i], sort) ? 1 : 0;
            }
            int lesser = Math.min(held, n - held);
            if (lesser > most) {
                best = sort;
                most = lesser;
            }
        }
        Due.be("the sort that parts " + n, x.parts(1, 0), n == 0 ? NONE : best);
        Due.be("the lesser part of " + n, x.parts(1, 1), n == 0 ? NONE : most);
    }

    /**
     * Terms 3: "QUARREL: the first two CASES of it (by the first, then the second) of one SORT with unlike ENDS."
     * Promise 26: "QUARREL: the first CASE (what 0), the second (1)."
     */
    static void quarrelOfTwo() {
        OneCode x = new OneCode();
        x.district(0, 1);
        x.district(0, 1);
        int[][] cases = {{0, 5, 1}, {1, 6, 1}, {0, 6, 1}, {0, 5, 1}, {0, 7, 1}, {0, 7, 0}, {0, 6, 0}, {0, 6, 100}, {1, 5, 0}, {1, 6, 0}};
        int[] first = {-1, -1, -1, -1, -1, 4, 2, 2, 2, 2};
        int[] second = {-1, -1, -1, -1, -1, 5, 6, 6, 6, 6};
        for (int i = 0; i < cases.length; i++) {
            x.heard(cases[i][0], cases[i][1], cases[i][2]);
            // What was asked of the FORMS is nothing to the QUARREL.
            x.parts(i % 2, 0);
            Due.be("first behind case " + i, x.quarrel(0, 0), first[i]);
            Due.be("second behind case " + i, x.quarrel(0, 1), second[i]);
        }
        Due.be("of the other", x.quarrel(1, 0), 1);
        Due.be("and its second", x.quarrel(1, 1), 9);
    }

    /**
     * Terms 3: "MOVES: with the text of a RULE as THE TAPE has it in place of its own, AS OF and KNOWN NOW: SORTS
     * with another ANSWER of its BODY (of its KIND's alone in the CODE); PEOPLE of the DISTRICTS under it NOW (a
     * CUSTOM's: where the CODE is not in force; the CODE's: where it is), times these; CASES of these DISTRICTS
     * with such a SORT."
     * Promise 27: "MOVES of a RULE: SORTS (what 0), PEOPLE (1), CASES (2);"
     */
    static void movesOfAText() {
        OneCode x = new OneCode();
        x.district(0, 10);
        x.district(0, 20);
        x.district(1, 40);
        x.carried(1, 0);
        Due.custom(x, 0, 2, "void if goods=0");
        Due.custom(x, 0, 1, "void if goods=1");
        Due.line(x, 2, "void if goods=0");
        Due.rule(x, "holds", 5, 5, 9, 0, 0);
        for (int district = 0; district < 3; district++) {
            for (int goods = 0; goods < 4; goods++) {
                for (int i = 0; i <= goods + district; i++) {
                    x.heard(district, 8 * i + goods, 0);
                }
            }
        }
        Due.feed(x, "void if goods>0");
        // Of goods 0 the END goes, of 1 another gives the same, of 2 and 3 it comes.
        Due.be("sorts", x.moves(0, 0), 384 * 3);
        Due.be("people of district 0", x.moves(0, 1), 384 * 3 * 10);
        Due.be("cases of district 0, of goods 0, 2, 3", x.moves(0, 2), 1 + 3 + 4);
        Due.be("of the lesser rank: those of goods 2 and 3 alone, as it loses goods 1", x.moves(1, 0), 384 * 2);
        Due.be("sorts of the line", x.moves(2, 0), 1536);
        Due.be("people of district 1", x.moves(2, 1), 1536 * 20);
        Due.be("cases of district 1", x.moves(2, 2), 2 + 3 + 4 + 5);
        Due.be("sorts of the saved one", x.moves(3, 0), 1536);
    }

    // ---- PERSONS

    /**
     * Promise 28: "A PERSON: its number."
     * Promise 32: "Of a PERSON: 0 DISTRICT, 1 parent (-1), 2 COINS, 3 0 living, 1 dead, 2 QUARRELLED, 4 its SORT as
     * it died (-1), 5 living children."
     * Terms 4: "One DIES on NOW: its SORT: what died; age, house, oath its own; kids its living children, 3 at most;
     * goods COINS by 100, cut, 3 at most."
     */
    static void personsAndTheirSorts() {
        for (int n = 0; n < 24; n++) {
            OneCode x = new OneCode();
            x.district(0, 1);
            x.district(1, 1);
            Due.custom(x, 1, 0, "void");
            int kids = n % 5;
            int coins = n * 37;
            Due.be("a person", x.person(0, -1, 0, 0, 0, 3), 0);
            Due.be("its child", x.person(1, 0, n % 4, n / 4 % 3, n / 12, coins), 1);
            for (int i = 0; i <= kids; i++) {
                Due.be("its child's child", x.person(i == 0 ? 1 : 0, 1, 0, 0, 0, 0), 2 + i);
            }
            x.die(2);
            be(x, 1, 1, 0, coins, 0, -1, kids);
            Due.be("dies", x.die(1), 0);
            int sort = Due.sort(2, n % 4, n / 4 % 3, Math.min(kids, 3), n / 12, Math.min(coins / 100, 3));
            be(x, 1, 1, 0, 0, 1, sort, kids);
            be(x, 0, 0, -1, 3, 0, -1, 0);
            Due.be("quarrelled over", x.die(0), GAP);
            be(x, 0, 0, -1, 3, 2, Due.sort(2, 0, 0, 0, 0, 0), 0);
        }
    }

    private static void be(OneCode x, int person, int... due) {
        for (int what = 0; what < 6; what++) {
            Due.be("personOf(" + person + ", " + what + ")", x.personOf(person, what), due[what]);
        }
    }

    /**
     * Terms 4: "A DISTRICT has a CHEST."
     * Promise 30: "One DIES: the ANSWER."
     */
    static void chestsOfDistricts() {
        OneCode x = new OneCode();
        int[] ends = {0, 1, 130, 203, GAP};
        String[] texts = {"void", "holds", "owed 30", "to 3"};
        for (int i = 0; i < 5; i++) {
            x.district(i, 1);
            if (i < 4) {
                Due.custom(x, i, 0, texts[i]);
            }
            x.person(i, -1, 0, 0, 0, 10 + i);
        }
        for (int i = 0; i < 5; i++) {
            Due.be("dies in district " + i, x.die(i), ends[i]);
        }
        for (int i = 0; i < 5; i++) {
            Due.be("chest of district " + i, x.chest(i), i < 4 ? 10 + i : 0);
        }
    }

    /** Terms 4: "Where there is nobody: to the CHEST." - of the DISTRICT of the dead, whatever its number and COINS are. */
    static void chestWhereThereIsNobody() {
        String[] texts = {"holds", "owed 42", "to 0", "to 1", "to 2", "to 3"};
        for (String text : texts) {
            OneCode x = new OneCode();
            for (int i = 0; i < 8; i++) {
                x.district(0, 1);
            }
            Due.custom(x, 0, 0, text);
            int[] chests = new int[8];
            for (int i = 0; i < 30; i++) {
                int coins = i * 331 % 10000;
                Due.be("person", x.person(i * 3 % 8, -1, 0, 0, 0, coins), i);
                chests[i * 3 % 8] += coins;
            }
            for (int i = 29; i >= 0; i--) {
                x.die(i);
            }
            for (int i = 0; i < 8; i++) {
                Due.be("chest of " + i + " by " + text, x.chest(i), chests[i]);
            }
        }
    }

    /** Promise 31: "One QUARRELLED over is SETTLED: the ANSWER (if that is a CLASH or GAP still, nothing is changed)." */
    static void settled() {
        OneCode x = new OneCode();
        x.district(0, 1);
        for (int i = 0; i < 6; i++) {
            x.person(0, i == 0 ? -1 : 0, i % 4, 0, 0, 10);
        }
        for (int i = 0; i < 6; i++) {
            x.die(i);
        }
        Due.custom(x, 0, 0, "void if age=1");
        Due.custom(x, 0, 0, "to 2 if age=2");
        Due.custom(x, 0, 0, "to 1 if age=3");
        Due.custom(x, 0, 0, "to 3 if age=3");
        int[] ends = {GAP, 0, 202, CLASH, GAP, 0};
        int[] states = {2, 1, 1, 2, 2, 1};
        for (int i = 0; i < 6; i++) {
            Due.be("settle", x.settle(i), ends[i]);
            Due.be("state", x.personOf(i, 3), states[i]);
            Due.be("coins", x.personOf(i, 2), states[i] == 2 ? 10 : 0);
            Due.be("settle again", x.settle(i), states[i] == 2 ? ends[i] : STATE);
        }
        Due.be("the chest has the others'", x.chest(0), 30);
    }

    // ---- NEAR

    /**
     * Terms 5: "NEAR:"
     * Promise 34: "THE TAPE is a WAY of a SLOT, of a RANK: its number;"
     * Promise 35: "What a WRITING keeps: WAYS as digits to the base 4, SLOT 0's the lowest."
     * Terms 5: "KEPT: over DISTRICTS and SORTS the PEOPLE, where ANSWER of the CODE's LINES and these is that of the
     * CUSTOM (AS OF and KNOWN NOW; CLASHES and GAPS are never KEPT)."
     */
    static void whatAWritingKeeps() {
        OneCode x = new OneCode();
        x.district(0, 2);
        x.district(3, 5);
        x.district(0, 1);
        Due.custom(x, 0, 0, "to 1 if what=1");
        Due.custom(x, 0, 0, "to 2 if what=2");
        Due.custom(x, 3, 0, "to 1 if what=2");
        for (int slot = 4; slot >= 0; slot -= 2) {
            for (int i = 0; i < 3; i++) {
                Due.be("way", Due.way(x, slot, slot, "to " + i + " if goods=" + slot / 2), i);
            }
        }
        for (int n = 0; n < 27; n++) {
            int[] way = {n % 3, n / 3 % 3, n / 9};
            int keeps = 0;
            for (int goods = 0; goods < 3; goods++) {
                // Of a what and goods 96 SORTS.
                keeps += way[goods] == 1 ? 96 * 3 + 96 * 5 : way[goods] == 2 ? 96 * 3 : 0;
            }
            int writing = way[0] + 16 * way[1] + 256 * way[2];
            Due.be("keeps(" + writing + ")", x.keeps(writing), keeps);
        }
        Due.be("near", x.near(0), 1 + 16 + 256);
        Due.rule(x, "to 2 if what=2", 5, 4, 9, 5, 0);
        Due.be("a line not yet in force", x.keeps(0), 0);
        x.days(5);
        Due.be("a line in force now", x.keeps(0), 384 * 3);
    }

    /**
     * Terms 5: "KEPT: over DISTRICTS and SORTS the PEOPLE, where ANSWER of the CODE's LINES and these is that of the
     * CUSTOM" - of all DISTRICTS whose CUSTOMS give it, be it one CUSTOM or several.
     */
    static void keptByAllThatGiveIt() {
        OneCode x = new OneCode();
        int[] customs = {0, 1, 2, 3, 4, 1, 0};
        int[] people = {1, 2, 4, 8, 16, 32, 64};
        String[] ends = {"holds", "holds", "void", "holds", "void"};
        int holds = 0;
        for (int i = 0; i < customs.length; i++) {
            x.district(customs[i], people[i]);
            holds += ends[customs[i]].equals("holds") ? people[i] : 0;
        }
        for (int custom = 0; custom < 5; custom++) {
            Due.custom(x, custom, 0, ends[custom] + " if age=1");
        }
        Due.way(x, 0, 0, "void");
        Due.way(x, 0, 0, "holds");
        Due.way(x, 0, 0, "to 1");
        Due.be("void", x.keeps(0), 384 * (127 - holds));
        Due.be("holds", x.keeps(1), 384 * holds);
        Due.be("to 1", x.keeps(2), 0);
        Due.be("the best", x.near(0), 1);
        Due.be("what it keeps", x.near(1), 384 * holds);
    }

    /**
     * Promise 36: "The WRITING that keeps most (what 0, as digits), how much (1)."
     * Terms 5: "(AS OF and KNOWN NOW; CLASHES and GAPS are never KEPT)" - KNOWN NOW and in force NOW, the CUSTOMS and the LINES.
     */
    static void nearAsOfAndKnownNow() {
        OneCode x = new OneCode();
        x.days(9);
        x.district(4, 3);
        Due.rule(x, "holds", 4, 1, 0, 0, 0);
        Due.rule(x, "void", 4, 1, 1, 11, 0);
        Due.rule(x, "to 0", 5, 4, 9, 13, 0);
        Due.way(x, 4, 0, "void");
        Due.way(x, 4, 0, "holds");
        Due.be("known now", x.near(0), 256);
        Due.be("all", x.near(1), 1536 * 3);
        Due.be("keeps", x.keeps(256), 1536 * 3);
        x.days(2);
        Due.be("in force now", x.near(0), 0);
        Due.be("all again", x.near(1), 1536 * 3);
        Due.be("keeps no more", x.keeps(256), 0);
        x.days(2);
        Due.be("the line is in force: nothing is kept, so the first", x.near(0), 0);
        Due.be("nothing", x.near(1), 0);
    }

    // ---- SECTIONS, LANDS

    /**
     * Terms 5: "CARRY:"
     * Promise 37: "A LINE comes on the TABLE: its number."
     * Promise 38: "A SECTION, that likes nothing and hates nothing: its number."
     * Promise 39: "A SECTION's liking for a LINE: what it was."
     * Terms 5: "Some are yielded (left out): a SECTION says yes, if its likings of those kept come to 0 or more."
     */
    static void sectionsAndTheirLikings() {
        OneCode x = new OneCode();
        Due.be("section ahead of lines", x.section(), 0);
        Due.be("line", x.line(7), 0);
        Due.be("section", x.section(), 1);
        Due.be("line", x.line(8), 1);
        Due.be("nothing is hated", x.yes(0), 2);
        for (int section = 0; section < 2; section++) {
            for (int line = 0; line < 2; line++) {
                Due.be("no liking so far", x.like(section, line, section == line ? -9 : 8), 0);
                Due.be("its liking", x.like(section, line, section == line ? -9 : 8), section == line ? -9 : 8);
            }
        }
        Due.be("-1 is no", x.yes(0), 0);
        Due.be("the first yielded: one says yes, one -9", x.yes(1), 1);
        Due.be("the second yielded", x.yes(2), 1);
        Due.be("both yielded", x.yes(3), 2);
        x.like(0, 1, 9);
        Due.be("0 is yes", x.yes(0), 1);
        Due.be("only the other says yes without the second", x.yes(2), 1);
    }

    /**
     * Terms 5: "LEAST YIELDING: of all sets of LINES to yield with which it is carried that of the least cost; of
     * several the fewest, then the least bits."
     * Promise 41: "LEAST YIELDING: the set (what 0), its cost (1)."
     */
    static void leastYielding() {
        int[][] costs = {{5, 2, 2}, {4, 2, 2}, {4, 2, 1}, {3, 4, 4}, {0, 0, 0}, {1, 0, 0}};
        int[] likings = {-6, -3, -3};
        for (int i = 0; i < costs.length; i++) {
            OneCode x = new OneCode();
            x.section();
            int sum = 0;
            for (int line = 0; line < 3; line++) {
                x.line(costs[i][line]);
                x.like(0, line, likings[line]);
                sum += costs[i][line];
            }
            Due.be("all are hated", x.least(0), 7);
            Due.be("their cost", x.least(1), sum);
            x.line(99);
            // With 6 for a line kept as dear as can be, either the first or both others must go.
            x.like(0, 3, 6);
            int first = costs[i][0];
            int others = costs[i][1] + costs[i][2];
            Due.be("cheaper, or the fewer", x.least(0), first <= others ? 1 : 6);
            Due.be("its cost", x.least(1), Math.min(first, others));
            x.like(0, 3, 9);
            int cheapest = Math.min(costs[i][0], Math.min(costs[i][1], costs[i][2]));
            int want = cheapest == costs[i][0] ? 1 : cheapest == costs[i][1] ? 2 : 4;
            Due.be("one alone, of the least bits", x.least(0), want);
            Due.be("the cheapest", x.least(1), cheapest);
        }
    }

    /**
     * Terms 5: "of the least cost; of several the fewest, then the least bits."
     * - the last of three LINES does what the first two do; it may be dearer, as dear or cheaper.
     */
    static void costThenFewestThenBits() {
        for (int dear = 0; dear <= 9; dear++) {
            OneCode x = new OneCode();
            x.section();
            x.line(2);
            x.line(3);
            x.line(dear);
            x.line(99);
            x.like(0, 0, -2);
            x.like(0, 1, -2);
            x.like(0, 2, -4);
            x.like(0, 3, 4);
            Due.be("the last of cost " + dear, x.least(0), dear <= 5 ? 4 : 3);
            Due.be("its cost", x.least(1), Math.min(dear, 5));
        }
    }

    /**
     * Terms 5: "LEAST YIELDING: of all sets of LINES to yield with which it is carried that of the least cost; of
     * several the fewest, then the least bits."
     * Promise 41: "LEAST YIELDING: the set (what 0), its cost (1)." "STATE: nothing carries it"
     * - found by going through all sets, with as many LINES and SECTIONS as can be, and few different costs.
     */
    static void leastOfAllSets() {
        Dice d = new Dice(41);
        for (int turn = 0; turn < 300; turn++) {
            OneCode x = new OneCode();
            int lines = d.below(8);
            int[] costs = new int[lines];
            for (int line = 0; line < lines; line++) {
                costs[line] = d.below(turn % 3 == 0 ? 1 : 4);
                x.line(costs[line]);
            }
            int[][] likings = new int[d.below(10)][lines];
            for (int s = 0; s < likings.length; s++) {
                x.section();
                for (int line = 0; line < lines; line++) {
                    likings[s][line] = d.from(-9, 5);
                    x.like(s, line, likings[s][line]);
                }
            }
            int best = leastOf(costs, likings);
            Due.be("the least of turn " + turn, x.least(0), best < 0 ? STATE : best);
            Due.be("its cost in turn " + turn, x.least(1), best < 0 ? STATE : costOf(costs, best));
        }
    }

    private static int leastOf(int[] costs, int[][] likings) {
        int best = -1;
        for (int set = 0; set < 1 << costs.length; set++) {
            int yes = 0;
            for (int[] row : likings) {
                int sum = 0;
                for (int line = 0; line < row.length; line++) {
                    sum += (set >> line & 1) == 0 ? row[line] : 0;
                }
                yes += sum >= 0 ? 1 : 0;
            }
            if (yes > likings.length - yes && (best < 0 || rankOf(costs, set) < rankOf(costs, best))) {
                best = set;
            }
        }
        return best;
    }

    /** By the cost, then by how many, then by the bits. */
    private static int rankOf(int[] costs, int set) {
        return (costOf(costs, set) * 8 + Integer.bitCount(set)) * 128 + set;
    }

    private static int costOf(int[] costs, int set) {
        int sum = 0;
        for (int line = 0; line < costs.length; line++) {
            sum += (set >> line & 1) * costs[line];
        }
        return sum;
    }

    /**
     * Terms 5: "LANDS: DISTRICTS are taught one behind the other, each its MONTHS (1 .. 12; 1 at first), with CASES
     * waiting each MONTH (0 .. 99; 0 at first) till it is done,"
     * Promise 42: "Of a DISTRICT MONTHS (what 0), CASES waiting (1), behind which it is (2; -1 none) becomes v: what
     * it was."
     * Promise 43: "What the ROW waits."
     * Promise 44: "The i-th DISTRICT of it."
     */
    static void landsAreTaught() {
        OneCode x = new OneCode();
        for (int i = 0; i < 3; i++) {
            x.district(0, 1);
        }
        Due.be("waiting", x.teach(2, 1, 10), 0);
        Due.be("taught in a month each", x.waits(), 10);
        Due.be("months", x.teach(2, 0, 6), 1);
        Due.be("till it is done", x.waits(), 60);
        Due.be("waiting", x.teach(0, 1, 9), 0);
        // 0 done at 1, 2 at 7: 9 + 70; the other way 60 + 63.
        Due.be("one behind the other", x.waits(), 79);
        Due.be("first", x.taught(0), 0);
        Due.be("then", x.taught(1), 2);
        Due.be("last", x.taught(2), 1);
        Due.be("behind", x.teach(0, 2, 2), -1);
        Due.be("the other way", x.waits(), 60 + 63);
        Due.be("first", x.taught(0), 2);
        Due.be("then", x.taught(1), 0);
        Due.be("behind none again", x.teach(0, 2, -1), 2);
        Due.be("as ahead", x.waits(), 79);
        Due.be("what it was", x.teach(0, 1, 0), 9);
        Due.be("what that was", x.teach(2, 0, 5), 6);
        Due.be("nothing waits but the one", x.waits(), 50);
    }

    // ---- ACTS, COUNTS, SHEETS

    /**
     * Terms 6: "ACTS of RULES, with x (wrapping): 0 holds, 1 hangs, 2 saves; m its number, r its RANK. BODIES of acts,
     * each with its number: RULE: 10 holds: x + r. 11 hangs: holds(x) * 2. 12 saves: hangs(x) ^ holds(x + m). WRITTEN:
     * 20 hangs: super.hangs(x) - r. SWORN: 30 holds: super.holds(x) * 3. SHOWN: 40 saves: super.saves(x + 1). LINE: 50
     * holds: super.holds(x) ^ m. SAVED: 60 saves: super.saves(x) + 4. 61 hangs: super.hangs(x - m)."
     * Terms 6: "holds(..) and so on: the body of the RULE's KIND, or, if that has none, of the next KIND above that has
     * one; super.holds(..): so from the KIND above the body's on."
     * Promise 45: "An ACT of a RULE with x."
     * Promise 46: "THE TRACE's i-th body."
     */
    static void actsOfRules() {
        OneCode x = new OneCode();
        for (int m = 0; m < 50; m++) {
            int kind = m % 5 + 1;
            Due.be("rule", Due.rule(x, "void", kind < 4 ? 0 : 5, kind, m / 5, 0, kind == 2 ? 2 : 0), m);
        }
        int[] given = {0, 1, -1, 1000, -77, Integer.MAX_VALUE, Integer.MIN_VALUE};
        for (int m = 0; m < 50; m++) {
            int v = given[m % given.length];
            int kind = m % 5 + 1;
            int r = m / 5;
            Due.be("kind " + kind + " holds " + v, x.act(m, 0, v), holds(kind, m, r, v));
            Due.be("kind " + kind + " hangs " + v, x.act(m, 1, v), hangs(kind, m, r, v));
            Due.be("kind " + kind + " saves " + v, x.act(m, 2, v), saves(kind, m, r, v));
        }
    }

    private static int holds(int kind, int m, int r, int v) {
        int rule = v + r;
        return kind == 2 ? rule * 3 : kind >= 4 ? rule ^ m : rule;
    }

    private static int hangs(int kind, int m, int r, int v) {
        int given = kind == 5 ? v - m : v;
        int rule = holds(kind, m, r, given) * 2;
        return kind == 1 || kind >= 4 ? rule - r : rule;
    }

    private static int saves(int kind, int m, int r, int v) {
        int given = kind == 3 ? v + 1 : v;
        int rule = hangs(kind, m, r, given) ^ holds(kind, m, r, given + m);
        return kind == 5 ? rule + 4 : rule;
    }

    /**
     * Terms 6: "THE TRACE: the numbers of the bodies that ran in the latest act(), in the order in which they began;"
     * Promise 46: "THE TRACE's i-th body."
     */
    static void tracesOfActs() {
        int[][][] bodies = {{{10}, {20, 11, 10}, {12, 20, 11, 10, 10}}, {{30, 10}, {11, 30, 10}, {12, 11, 30, 10, 30, 10}},
            {{10}, {11, 10}, {40, 12, 11, 10, 10}}, {{50, 10}, {20, 11, 50, 10}, {12, 20, 11, 50, 10, 50, 10}},
            {{50, 10}, {61, 20, 11, 50, 10}, {60, 12, 61, 20, 11, 50, 10, 50, 10}}};
        OneCode x = new OneCode();
        for (int kind = 5; kind >= 1; kind--) {
            Due.rule(x, "void", kind < 4 ? 0 : 5, kind, 0, 0, kind == 2 ? 2 : 0);
        }
        for (int kind = 1; kind <= 5; kind++) {
            for (int act = 0; act < 3; act++) {
                int[] due = bodies[kind - 1][act];
                x.act(5 - kind, act, 3);
                for (int i = 0; i <= due.length; i++) {
                    Due.be("body " + i + " of act " + act + " of kind " + kind, x.trace(i), i < due.length ? due[i] : NONE);
                }
            }
        }
    }

    /**
     * Promise 48: "How many: 0 RULES, 1 DISTRICTS, 2 CASES, 3 PERSONS, 4 that live, 5 QUARRELLED, 6 NOW, 7 LINES on the
     * TABLE, 8 SECTIONS, 9 bytes of THE TAPE, 10 WAYS, 11 bodies that ran in the latest act() (all, kept or not), 12
     * DEEDS."
     */
    static void countsOfAll() {
        int[] due = {8, 3, 5, 7, 4, 2, 20, 3, 3, 11, 3, 9, 3};
        OneCode x = World.rich();
        counts(x, due);
        one(due, 1, x.district(4, 1));
        due[1]++;
        counts(x, due);
        one(due, 2, x.heard(0, 0, 0));
        due[2]++;
        counts(x, due);
        one(due, 3, x.person(0, -1, 0, 0, 0, 0));
        due[3]++;
        due[4]++;
        counts(x, due);
        Due.be("dies without law", x.die(7), GAP);
        due[4]--;
        due[5]++;
        counts(x, due);
        Due.be("days", x.days(5), 25);
        due[6] += 5;
        counts(x, due);
        one(due, 7, x.line(0));
        due[7]++;
        one(due, 8, x.section());
        due[8]++;
        counts(x, due);
        Due.be("feed", x.feed(0x3D30, 2), 13);
        due[9] += 2;
        counts(x, due);
        Due.be("a third way", x.way(0, 0), 2);
        due[9] = 0;
        due[10]++;
        counts(x, due);
        Due.be("act", x.act(0, 0, 0), 3);
        due[11] = 1;
        one(due, 12, x.deed(0, 0));
        due[12]++;
        counts(x, due);
        Due.be("rule", Due.custom(x, 0, 0, "void"), 8);
        due[0]++;
        counts(x, due);
    }

    /** What comes new has the number that was the count. */
    private static void one(int[] due, int what, int number) {
        Due.be("the number of the new one", number, due[what]);
    }

    private static void counts(OneCode x, int[] due) {
        for (int what = 0; what < due.length; what++) {
            Due.be("count(" + what + ")", x.count(what), due[what]);
        }
    }

    /**
     * Promise 49: "A SHEET becomes a row of n of a sort, all 0, or missing (sort -1: n does not matter): 1."
     * Promise 50: "Item i of a SHEET becomes v (of bytes, shorts its lowest 8, 16 bits): 1."
     */
    static void sheetsAndTheirItems() {
        for (int sort = 0; sort < 3; sort++) {
            OneCode x = new OneCode();
            x.district(0, 1);
            for (int sheet = 0; sheet < 3; sheet++) {
                Due.be("a row", x.sheet(sheet, sort, 8 + sheet), 1);
                Due.be("its last item", x.cell(sheet, 7 + sheet, 1), 1);
                Due.be("none behind it", x.cell(sheet, 8 + sheet, 1), -12);
                Due.be("all others are 0", x.read(0, sheet, sort, 0), 2 * sheet);
                Due.be("item 1 becomes 3", x.cell(sheet, 1, 3 + (sort == 0 ? 256 : sort == 1 ? 65536 : 0)), 1);
                Due.be("read", x.read(0, sheet, sort, 0), 2 * sheet + 1);
            }
            Due.be("age 3", x.heard(0, Due.sort(0, 3, 0, 0, 0, 0), 1), 6);
            Due.be("was read", x.quarrel(0, 0), 1);
            Due.be("missing", x.sheet(1, -1, 40), 1);
            Due.be("no item", x.cell(1, 0, 0), -11);
            Due.be("the others stay", x.read(0, 2, sort, 1), 7);
            Due.be("what 3", x.heard(0, Due.sort(3, 0, 0, 0, 0, 0), 0), 8);
            Due.be("a new row, all 0", x.sheet(2, sort, 8), 1);
            Due.be("is read", x.read(0, 2, sort, 1), 9);
        }
    }

    // ---- Answers

    /**
     * Answers: "NONE (-1) there is no such number; BAD (-2) a number is not as told; STATE (-3) as told; FULL (-4); the
     * first that a call's words name. What is answered so changes nothing."
     */
    static void refusalsChangeNothing() {
        Due.be("NONE", OneCode.NONE, -1);
        Due.be("BAD", OneCode.BAD, -2);
        Due.be("STATE", OneCode.STATE, -3);
        Due.be("FULL", OneCode.FULL, -4);
        Still.rich("refusals", x -> {
            Due.be("none, though the sort is bad", x.deed(3, -1), -1);
            Due.be("bad, though it was told", x.carried(1, 5), -2);
            Due.be("state", x.carried(1, 30), -3);
            Due.be("none, though it is dead", x.goes(6, 3), -1);
            Due.be("state", x.goes(6, 0), -3);
            Due.be("none, though the rank is bad", x.way(5, 10), -1);
            Due.be("bad", x.way(0, 10), -2);
        });
    }
}
