/**
 * Which DAY counts where the document says AS OF, judged on, KNOWN on or NOW: RULES told on other DAYS
 * than those from which they hold, and numbers of DISTRICTS, PERSONS, DEEDS that are no DAYS.
 */
public final class DaysSentencesTest {
    private static final int NONE = -1, NO_SUCH = -5;
    private static final int GAP = -3;

    public static void main(String[] args) throws Exception {
        Each.run(DaysSentencesTest.class);
    }

    // ---- LAW

    /**
     * Terms 2: "LAW there for facts of DAY f, judged on DAY j (f at most), KNOWN on k: if the CODE is not in force
     * there on j: ANSWER of the CUSTOM AS OF f. If it was on f: ANSWER of the CODE's LINES (KIND 4 alone) AS OF f.
     * Else ANSWER of its SAVED ones AS OF j, and, if that is a GAP, of the CUSTOM AS OF f."
     * Promise 13: "LAW in a DISTRICT for a SORT of DAY f, judged on j, KNOWN on k."
     * - what is told on DAY 12 is KNOWN only to those who ask for DAY 12 or a later one, be j earlier or later.
     */
    static void lawByWhatIsKnown() {
        for (int f = 0; f <= 14; f++) {
            for (int sort = 0; sort <= 4; sort += 4) {
                OneCode x = toldOnDay12();
                for (int j = f; j <= 14; j++) {
                    for (int k = 0; k <= 18; k++) {
                        String law = "law for " + sort + " of " + f + " on " + j + " known on " + k;
                        Due.be(law, x.law(0, sort, f, j, k), lawDue(sort, f, j, k));
                    }
                }
            }
        }
    }

    /** On DAY 15 one of the two WITNESSES FELL and the others told on DAY 12 are STRUCK. */
    private static OneCode toldOnDay12() {
        OneCode x = new OneCode();
        x.district(0, 1);
        x.carried(0, 5);
        Due.rule(x, "owed 10", 0, 1, 0, 0, 0);
        Due.rule(x, "owed 20", 5, 4, 0, 0, 0);
        Due.rule(x, "owed 30 if oath=1", 5, 5, 0, 0, 0);
        x.days(12);
        Due.rule(x, "owed 11", 0, 2, 1, 2, 2);
        Due.rule(x, "owed 21", 5, 4, 1, 7, 0);
        Due.rule(x, "owed 31", 5, 5, 1, 8, 0);
        x.days(3);
        x.fall(3);
        x.strike(4, 9);
        x.strike(5, 10);
        return x;
    }

    private static int lawDue(int sort, int f, int j, int k) {
        int custom = k >= 12 && k < 15 && f >= 2 ? 111 : 110;
        if (j < 5) {
            return custom;
        }
        if (f >= 5) {
            return k >= 12 && f >= 7 && !(k >= 15 && f >= 9) ? 121 : 120;
        }
        if (k >= 12 && j >= 8 && !(k >= 15 && j >= 10)) {
            return 131;
        }
        return sort == 4 ? 130 : custom;
    }

    /**
     * Promise 15: "END of a DEED, judged on j, KNOWN on k."
     * Terms 2: "END of one, judged on j, KNOWN on k: LAW there for its SORT of its DAY."
     * - RULES for the DEED's DAY that are told later are KNOWN later, by LINES as by the CUSTOM.
     */
    static void deedEndByWhatIsKnown() {
        OneCode x = new OneCode();
        x.district(0, 1);
        x.district(0, 1);
        x.carried(0, 3);
        x.days(4);
        x.deed(0, 9);
        x.deed(1, 9);
        x.days(2);
        Due.rule(x, "to 1", 0, 1, 0, 4, 0);
        Due.rule(x, "to 2", 5, 4, 0, 4, 0);
        for (int j = 4; j <= 8; j++) {
            for (int k = 0; k <= 8; k++) {
                Due.be("under the code, on " + j + " known on " + k, x.deedEnd(0, j, k), k < 6 ? GAP : 202);
                Due.be("under the custom, on " + j + " known on " + k, x.deedEnd(1, j, k), k < 6 ? GAP : 201);
            }
        }
    }

    // ---- LOST

    /**
     * Terms 2: "It is LOST, if its END, judged and KNOWN NOW, is another one than judged and KNOWN on its own DAY."
     * - the DAY is its own, not its number and not that of its DISTRICT: as the CODE comes on DAY 5, some
     * of the numbers are ahead of it and some behind.
     */
    static void lostByItsOwnDay() {
        OneCode x = new OneCode();
        for (int i = 0; i < 8; i++) {
            x.district(0, 1);
            x.carried(i, 5);
        }
        Due.rule(x, "to 0", 0, 1, 0, 0, 0);
        Due.rule(x, "to 1 if oath=1", 5, 5, 0, 0, 0);
        x.days(3);
        for (int i = 0; i < 16; i++) {
            Due.be("deed", x.deed(i % 8, i / 8 * 4), i);
        }
        for (int day = 3; day <= 6; day++) {
            Due.be("lost on " + day, x.lost(-1, 0), day < 5 ? 0 : 8);
            Due.be("the first on " + day, x.lost(-1, 1), day < 5 ? -1 : 8);
            for (int i = 0; i < 8; i++) {
                Due.be("lost in " + i + " on " + day, x.lost(i, 0), day < 5 ? 0 : 1);
                Due.be("the first in " + i + " on " + day, x.lost(i, 1), day < 5 ? -1 : 8 + i);
            }
            x.days(1);
        }
    }

    /**
     * Terms 2: "It is LOST, if its END, judged and KNOWN NOW, is another one than judged and KNOWN on its own DAY."
     * - on its own DAY nothing that is told later was KNOWN, whatever the DEED's number and its DISTRICT's are.
     */
    static void lostByWhatWasKnown() {
        OneCode x = new OneCode();
        for (int i = 0; i < 8; i++) {
            x.district(i % 2, 1);
        }
        for (int i = 0; i < 16; i++) {
            x.deed(i % 8, 0);
        }
        x.days(4);
        Due.rule(x, "void", 1, 1, 0, 0, 0);
        for (int i = 0; i < 8; i++) {
            x.deed(i, 0);
        }
        Due.be("those done ahead of it, under custom 1", x.lost(-1, 0), 8);
        Due.be("the first", x.lost(-1, 1), 1);
        Due.be("of district 7", x.lost(7, 0), 2);
        Due.be("the first of district 7", x.lost(7, 1), 7);
        Due.be("of district 6", x.lost(6, 0), 0);
    }

    // ---- COURTS

    /**
     * Promise 18: "A COURT between two DISTRICTS for a SORT of DAY f, judged and KNOWN NOW."
     * - each RULE holds from a DAY on and is told three DAYS later; the CODE comes on DAY 5 and 7.
     */
    static void courtJudgedAndKnownNow() {
        for (int now = 0; now <= 11; now++) {
            OneCode x = toldThreeDaysLater(now);
            for (int r = 0; r <= 2; r++) {
                x.courts(r);
                for (int f = 0; f <= now; f++) {
                    for (int sort = 0; sort <= 4; sort += 4) {
                        int first = courtDue(0, 5, sort, f, now);
                        int second = courtDue(10, 7, sort, f, now);
                        int due = first == second || r == 0 ? first : r == 1 ? second : -4;
                        Due.be("court for " + sort + " of " + f + " on " + now + " by rule " + r, x.court(0, 1, sort, f), due);
                    }
                }
            }
        }
    }

    private static OneCode toldThreeDaysLater(int now) {
        OneCode x = new OneCode();
        x.district(0, 1);
        x.district(1, 1);
        x.carried(0, 5);
        x.carried(1, 7);
        for (int day = 0; day <= now; day++) {
            if (day > 0) {
                x.days(1);
            }
            int from = day - 3;
            if (from >= 0) {
                Due.rule(x, "owed " + from, 0, 1, from, from, 0);
                Due.rule(x, "owed " + (10 + from), 1, 3, from, from, 0);
                Due.rule(x, "owed " + (20 + from), 5, 4, from, from, 0);
                Due.rule(x, "owed " + (30 + from) + " if oath=1", 5, 5, from, from, 0);
            }
        }
        return x;
    }

    private static int courtDue(int custom, int code, int sort, int f, int now) {
        if (now < 3) {
            return GAP;
        }
        int known = now - 3;
        boolean byCode = now >= code && f >= code;
        boolean saved = now >= code && f < code && sort == 4;
        return byCode ? 120 + Math.min(f, known) : saved ? 130 + known : 100 + custom + Math.min(f, known);
    }

    // ---- who gives an ANSWER

    /**
     * Promise 10: "The i-th RULE, by numbers, of those that give that ANSWER (of a CLASH: of the greatest RANK)."
     * - the greatest RANK is that of the RULES that fit the SORT asked for, not another one.
     */
    static void giversOfTheSortAskedFor() {
        for (int body = 0; body <= 5; body++) {
            OneCode x = new OneCode();
            x.days(40);
            int kind = body < 5 ? 1 : 4;
            Due.rule(x, "void if what=0 and age=0", body, kind, 9, 0, 0);
            Due.rule(x, "to 1", body, kind, 4, 0, 0);
            Due.rule(x, "to 1 if what>1", body, kind, 4, 0, 0);
            Due.rule(x, "to 3 if what=3", body, kind, 7, 0, 0);
            int[] sorts = {0, 95, 96, 383, 384, 768, 1151, 1152, 1535};
            int[] firsts = {0, 0, 1, 1, 1, 1, 1, 3, 3};
            int[] seconds = {NONE, NONE, NONE, NONE, NONE, 2, 2, NONE, NONE};
            for (int i = 0; i < sorts.length; i++) {
                Due.be("the first for " + sorts[i] + " of " + body, x.why(body, sorts[i], 40, 40, 0), firsts[i]);
                Due.be("the second for " + sorts[i] + " of " + body, x.why(body, sorts[i], 40, 40, 1), seconds[i]);
                Due.be("no third", x.why(body, sorts[i], 40, 40, 2), NONE);
            }
        }
    }

    // ---- one DIES, one is SETTLED

    /**
     * Terms 4: "By LAW of its DISTRICT for it (facts of NOW, judged and KNOWN NOW)"
     * - by what is told on that DAY, and holds from it on, whatever the PERSON's number is.
     */
    static void diesByTheLawOfNow() {
        OneCode x = new OneCode();
        x.district(0, 1);
        x.district(1, 1);
        x.carried(0, 70);
        for (int i = 0; i < 12; i++) {
            Due.be("person", x.person(i % 2, -1, 0, 0, 0, 100), i);
        }
        Due.rule(x, "owed 1", 0, 1, 0, 0, 0);
        Due.rule(x, "owed 2", 0, 1, 1, 50, 0);
        Due.rule(x, "owed 6", 1, 1, 0, 0, 0);
        x.days(40);
        Due.be("as of now", x.die(0), 101);
        Due.rule(x, "owed 3", 0, 1, 2, 60, 0);
        Due.rule(x, "owed 7", 1, 1, 1, 0, 0);
        Due.be("told now, but not from now on", x.die(2), 101);
        Due.be("told now in another district", x.die(1), 107);
        x.days(10);
        Due.be("from now on", x.die(4), 102);
        x.days(10);
        Due.be("from now on", x.die(6), 103);
        x.days(10);
        Due.rule(x, "owed 4", 5, 4, 0, 70, 0);
        Due.rule(x, "owed 5", 5, 5, 9, 0, 0);
        Due.be("by the code, told and in force from now on", x.die(8), 104);
        Due.be("the other district is still under its custom", x.die(3), 107);
        x.goes(5, 0);
        Due.be("of the other one that has gone to it", x.die(5), 104);
        x.goes(10, 1);
        Due.be("and the other way", x.die(10), 107);
    }

    /**
     * Terms 4: "the COINS stay, till it is SETTLED (as on the NOW of then, its SORT as it was)."
     * Promise 31: "One QUARRELLED over is SETTLED: the ANSWER"
     * - by what is told, and holds, on the DAY of settling, not on that of the death.
     */
    static void settledByTheLawOfNow() {
        OneCode x = new OneCode();
        x.district(0, 1);
        x.district(0, 1);
        x.carried(1, 30);
        for (int i = 0; i < 4; i++) {
            x.person(i % 2, -1, 0, 0, 0, 100);
            Due.be("dies without law", x.die(i), GAP);
        }
        x.days(20);
        Due.rule(x, "owed 1", 0, 1, 0, 30, 0);
        Due.rule(x, "owed 2", 5, 4, 0, 30, 0);
        Due.be("not yet in force", x.settle(0), GAP);
        Due.be("nor there", x.settle(1), GAP);
        x.days(10);
        Due.be("by the custom of now", x.settle(0), 101);
        Due.be("by the code of now", x.settle(1), 102);
        Due.rule(x, "owed 3", 0, 1, 1, 30, 0);
        Due.rule(x, "owed 4", 5, 4, 1, 30, 0);
        Due.be("told now", x.settle(2), 103);
        Due.be("told now, by the code", x.settle(3), 104);
    }

    // ---- numbers, when there is one of each

    /**
     * Promise 1: "No RULES, DISTRICTS; NOW is 0."
     * Promise 9: "-5: none such (a, k 0 and more)."
     * Promise 10: "-5: likewise."
     * Promise 16: "-5: none such."
     * Promise 19: "-5: none such."
     * Promise 20: "-5: none such."
     * Promise 23: "NONE."
     * Promise 25: "NONE: district, what, nothing is LEFT."
     * Answers: "NONE (-1) there is no such number;"
     * - with THE TAPE empty, NOW 0 and one of each, all of whose numbers are 0.
     */
    static void oneOfEach() {
        OneCode x = new OneCode();
        x.district(0, 1);
        Due.rule(x, "void", 5, 5, 0, 0, 0);
        for (int n : new int[] {Integer.MIN_VALUE, -2, -1, 1, 6, 7, 8, Integer.MAX_VALUE}) {
            int body = n == 1 ? 6 : n;
            Due.be("answer of " + body, x.answer(body, 0, 0, 0), NO_SUCH);
            Due.be("why of " + body, x.why(body, 0, 0, 0, 0), NO_SUCH);
            Due.be("unlike " + body, x.unlike(body, 0, 0), NO_SUCH);
            Due.be("unlike, the other " + body, x.unlike(0, body, 0), NO_SUCH);
            Due.be("wrong of " + body, x.wrong(body, 0, 0), NO_SUCH);
            Due.be("wrong, which " + n, x.wrong(0, n == 1 ? 2 : n, 0), NO_SUCH);
            Due.be("wrong, what " + n, x.wrong(0, 0, n == 1 ? 3 : n), NO_SUCH);
            Due.be("lost in " + n, x.lost(n, 0), n == -1 ? 0 : NO_SUCH);
            Due.be("lost, what " + n, x.lost(0, n == 1 ? 2 : n), NO_SUCH);
            Due.be("law in " + n, x.law(n, 0, 0, 0, 0), NO_SUCH);
            Due.be("court of " + n, x.court(n, 0, 0, 0), NO_SUCH);
            Due.be("court with " + n, x.court(0, n, 0, 0), NO_SUCH);
            Due.be("left in " + n, x.left(n), NONE);
            Due.be("form in " + n, x.form(n, 0), NONE);
            Due.be("parts in " + n, x.parts(n, 0), NONE);
            Due.be("parts, what " + n, x.parts(0, n == 1 ? 2 : n), NONE);
            Due.be("quarrel in " + n, x.quarrel(n, 0), NONE);
            Due.be("chest of " + n, x.chest(n), n == -1 ? 0 : NO_SUCH);
            Due.be("fits of " + n, x.fits(n, 0), NONE);
            Due.be("ruleOf of " + n, x.ruleOf(n, 0), NO_SUCH);
            Due.be("taught at " + n, x.taught(n), NONE);
        }
        Due.be("parts", x.parts(0, 1), 24);
        Due.be("lost", x.lost(0, 0), 0);
        Due.be("answer", x.answer(5, 0, 0, 0), GAP);
    }
}
