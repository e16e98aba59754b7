/** The boundary cases of promises 11 to 20 and of part 2 of the Terms: each sentence has a test of its own. */
public final class LandsEdgesTest {
    private static final int NONE = -1, BAD = -2, STATE = -3, FULL = -4;
    private static final int CLASH = -2, GAP = -3;
    private static final int LOW = Integer.MIN_VALUE, HIGH = Integer.MAX_VALUE;
    private static final int DIED = Due.sort(2, 0, 0, 0, 0, 0);

    public static void main(String[] args) throws Exception {
        Each.run(LandsEdgesTest.class);
    }

    private static OneCode fullOfDistricts() {
        OneCode x = World.rich();
        for (int d = 3; d < 8; d++) {
            Due.be("district " + d, x.district(4, 99), d);
        }
        return x;
    }

    private static OneCode fullOfDeeds() {
        OneCode x = World.rich();
        for (int i = 3; i < 60; i++) {
            Due.be("deed " + i, x.deed(i % 3, i), i);
        }
        return x;
    }

    /**
     * Custom 0: "to 0", from day 15 on "holds" by a greater RANK. The code: "void" where age is not
     * 3. Saved: where one died, "owed 5", from day 30 on "owed 6". District 0 has the code from 20 on.
     */
    private static OneCode lawful() {
        OneCode x = new OneCode();
        Due.custom(x, 0, 0, "to 0");
        Due.rule(x, "holds", 0, 1, 1, 15, 0);
        Due.line(x, 0, "void unless age=3");
        Due.rule(x, "owed 5 if what=2", 5, 5, 0, 0, 0);
        Due.rule(x, "owed 6 if what=2", 5, 5, 1, 30, 0);
        x.district(0, 1);
        x.district(0, 1);
        x.carried(0, 20);
        return x;
    }

    // ---- districts

    /** Promise 11: "NONE: custom; BAD; FULL" - NONE: custom. */
    static void districtOfNoCustom() {
        Still.rich("district none", x -> {
            for (int custom : new int[] {-1, LOW, 5, 6, HIGH}) {
                Due.be("custom " + custom, x.district(custom, 1), NONE);
                Due.be("none ahead of bad", x.district(custom, 0), NONE);
            }
        });
        OneCode x = new OneCode();
        Due.be("the first custom", x.district(0, 1), 0);
        Due.be("the last custom", x.district(4, 1), 1);
    }

    /** Promise 11: "BAD; FULL" - BAD: PEOPLE; Terms 2: "PEOPLE (1 .. 99)" */
    static void districtOfTooFewOrTooMany() {
        Still.rich("district bad", x -> {
            for (int people : new int[] {0, -1, LOW, 100, HIGH}) {
                Due.be("people " + people, x.district(0, people), BAD);
            }
        });
        OneCode x = new OneCode();
        Due.custom(x, 0, 0, "void");
        Due.line(x, 0, "void");
        Due.be("one", x.district(0, 1), 0);
        Due.be("kept", x.keeps(0), 1536);
        Due.be("ninety-nine", x.district(0, 99), 1);
        Due.be("kept then", x.keeps(0), 1536 * 100);
    }

    /** Promise 11: "FULL" */
    static void districtsFull() {
        Still.after("districts full", LandsEdgesTest::fullOfDistricts, x -> {
            Due.be("one more", x.district(0, 1), FULL);
            Due.be("bad ahead of full", x.district(0, 0), BAD);
            Due.be("none ahead of full", x.district(5, 1), NONE);
        });
    }

    /** Terms 2: "DISTRICTS 0 .. 7, as they come" */
    static void theLastDistrict() {
        OneCode x = fullOfDistricts();
        Due.be("all", x.count(1), 8);
        Due.be("a deed", x.deed(7, 0), 3);
        Due.be("law", x.law(7, 0, 0, 0, 0), GAP);
        Due.be("a case", x.heard(7, 0, 0), 5);
        Due.be("a person", x.person(7, -1, 0, 0, 0, 0), 7);
        Due.be("its chest", x.chest(7), 0);
        Due.be("its months", x.teach(7, 0, 12), 1);
        Due.be("behind another", x.teach(7, 2, 6), -1);
        Due.be("carried", x.carried(7, 20), 1);
        Due.be("none behind it", x.carried(8, 20), NONE);
        Due.be("none behind it, law", x.law(8, 0, 0, 0, 0), -5);
    }

    // ---- carried

    /** Promise 12: "NONE; BAD; STATE: a DAY was told there" - NONE: no such DISTRICT. */
    static void carriedNone() {
        Still.rich("carried none", x -> {
            for (int d : new int[] {-1, LOW, 3, 7, 8, HIGH}) {
                Due.be("carried(" + d + ", 20)", x.carried(d, 20), NONE);
                Due.be("none ahead of bad", x.carried(d, 19), NONE);
            }
        });
    }

    /** Promise 12: "The CODE is in force in a DISTRICT from a DAY on (now or later): 1. NONE; BAD" */
    static void carriedInThePast() {
        Still.rich("carried bad", x -> {
            for (int from : new int[] {19, 0, -1, LOW}) {
                Due.be("from " + from, x.carried(0, from), BAD);
                Due.be("bad ahead of state", x.carried(1, from), BAD);
            }
        });
        OneCode x = World.rich();
        Due.be("ahead of it", x.law(0, 4, 20, 20, 20), GAP);
        Due.be("now", x.carried(0, 20), 1);
        Due.be("in force now", x.law(0, 4, 20, 20, 20), 0);
        Due.be("not in force yesterday", x.law(0, 4, 19, 19, 20), GAP);
        OneCode y = World.rich();
        Due.be("later", y.carried(0, 21), 1);
        Due.be("not in force now", y.law(0, 4, 20, 20, 20), GAP);
        Due.be("in force then", y.law(0, 4, 21, 21, 20), 0);
        OneCode z = World.rich();
        Due.be("on the last day", z.carried(0, 3999), 1);
        Due.be("not ahead of it", z.law(0, 4, 3998, 3998, 20), GAP);
        Due.be("in force on it", z.law(0, 4, 3999, 3999, 20), 0);
    }

    /** Promise 12: "STATE: a DAY was told there" */
    static void carriedTwice() {
        Still.rich("carried state", x -> {
            for (int from : new int[] {20, 24, 25, 26, 3999}) {
                Due.be("from " + from, x.carried(1, from), STATE);
                Due.be("where it is in force, from " + from, x.carried(2, from), STATE);
            }
        });
        OneCode x = new OneCode();
        x.district(0, 1);
        Due.be("from day 0", x.carried(0, 0), 1);
        Due.be("told for day 0", x.carried(0, 0), STATE);
        Due.be("told for day 0, later", x.carried(0, 9), STATE);
    }

    // ---- law

    /** Promise 13: "-5: none such; f is below 0, or behind j" - none such. */
    static void lawNone() {
        Still.rich("law none", x -> {
            for (int d : new int[] {-1, LOW, 3, 7, 8, HIGH}) {
                Due.be("district " + d, x.law(d, 0, 0, 0, 0), -5);
            }
            for (int sort : new int[] {-1, LOW, 1536, HIGH}) {
                Due.be("sort " + sort, x.law(1, sort, 0, 0, 0), -5);
            }
            for (int k : new int[] {-1, LOW}) {
                Due.be("k " + k, x.law(1, 0, 0, 0, k), -5);
            }
        });
        OneCode x = World.rich();
        Due.be("the first sort", x.law(1, 0, 0, 0, 0), 0);
        Due.be("the last sort", x.law(1, 1535, 0, 0, 0), CLASH);
    }

    /** Promise 13: "f is below 0, or behind j"; Terms 2: "facts of DAY f, judged on DAY j (f at most)" */
    static void lawOfNoDay() {
        Still.rich("law of no day", x -> {
            Due.be("f below 0", x.law(1, 0, -1, 0, 0), -5);
            Due.be("f far below 0", x.law(1, 0, LOW, 0, 0), -5);
            Due.be("f and j below 0", x.law(1, 0, -1, -1, 0), -5);
            Due.be("j below 0", x.law(1, 0, 0, -1, 0), -5);
            Due.be("f behind j", x.law(1, 0, 1, 0, 0), -5);
            Due.be("f behind j by one", x.law(1, 0, 21, 20, 20), -5);
            Due.be("f far behind j", x.law(1, 0, HIGH, 0, 0), -5);
            Due.be("j far below", x.law(1, 0, 0, LOW, 0), -5);
        });
        OneCode x = World.rich();
        Due.be("day 0", x.law(1, 0, 0, 0, 0), 0);
        Due.be("f is j", x.law(1, 0, 20, 20, 0), 0);
        Due.be("beyond all days", x.law(1, 0, HIGH, HIGH, HIGH), 203);
        Due.be("judged beyond all days", x.law(1, 0, 0, HIGH, 0), 0);
    }

    /** Terms 2: "if the CODE is not in force there on j: ANSWER of the CUSTOM AS OF f" */
    static void lawAheadOfTheCode() {
        OneCode x = lawful();
        Due.be("the day ahead", x.law(0, DIED, 0, 19, 0), 200);
        Due.be("as of f, ahead of a change", x.law(0, DIED, 14, 19, 0), 200);
        Due.be("as of f, on its day", x.law(0, DIED, 15, 19, 0), 1);
        Due.be("on the day itself no more", x.law(0, DIED, 14, 20, 0), 105);
    }

    /** Terms 2: "If it was on f: ANSWER of the CODE's LINES (KIND 4 alone) AS OF f" */
    static void lawOfTheCode() {
        OneCode x = lawful();
        Due.be("on its first day", x.law(0, DIED, 20, 20, 0), 0);
        Due.be("of the first day, later", x.law(0, DIED, 20, 30, 0), 0);
        Due.be("of the day ahead", x.law(0, DIED, 19, 20, 0), 105);
        Due.be("a gap of the lines stays one", x.law(0, Due.sort(2, 3, 0, 0, 0, 0), 20, 20, 0), GAP);
        Due.rule(x, "to 3", 5, 4, 1, 22, 0);
        Due.be("lines as of f", x.law(0, DIED, 21, 22, 0), 0);
        Due.be("lines as of their day", x.law(0, DIED, 22, 22, 0), 203);
    }

    /** Terms 2: "Else ANSWER of its SAVED ones AS OF j, and, if that is a GAP, of the CUSTOM AS OF f" */
    static void lawSaved() {
        OneCode x = lawful();
        Due.be("as of j, ahead of a change", x.law(0, DIED, 0, 29, 0), 105);
        Due.be("as of j, on its day", x.law(0, DIED, 0, 30, 0), 106);
        Due.be("a gap", x.law(0, 0, 14, 20, 0), 200);
        Due.be("a gap, as of f", x.law(0, 0, 15, 20, 0), 1);
        Due.rule(x, "to 3", 5, 5, 1, 30, 0);
        Due.be("a clash is no gap", x.law(0, DIED, 0, 30, 0), CLASH);
        Due.be("of that rank alone", x.law(0, 0, 0, 30, 0), 203);
        OneCode y = new OneCode();
        y.district(0, 1);
        y.carried(0, 1);
        Due.be("a gap of both", y.law(0, 0, 0, 1, 0), GAP);
    }

    /** Terms 2: "the CODE is in force there from a DAY on (told; or not yet)" */
    static void lawWhereItIsNotYetTold() {
        OneCode x = lawful();
        Due.be("not told", x.law(1, DIED, 0, 3999, 0), 200);
        Due.be("not told, of late facts", x.law(1, DIED, 3999, 3999, 0), 1);
        Due.be("not told, of far days", x.law(1, DIED, HIGH, HIGH, HIGH), 1);
    }

    // ---- deeds

    /** Promise 14: "NONE: district; BAD: sort; FULL" - NONE: district. */
    static void deedOfNoDistrict() {
        Still.rich("deed none", x -> {
            for (int d : new int[] {-1, LOW, 3, 7, 8, HIGH}) {
                Due.be("deed(" + d + ", 0)", x.deed(d, 0), NONE);
                Due.be("none ahead of bad", x.deed(d, -1), NONE);
            }
        });
    }

    /** Promise 14: "BAD: sort" */
    static void deedOfNoSort() {
        Still.rich("deed bad", x -> {
            for (int sort : new int[] {-1, LOW, 1536, HIGH}) {
                Due.be("sort " + sort, x.deed(0, sort), BAD);
            }
        });
        OneCode x = World.rich();
        Due.be("the first sort", x.deed(1, 0), 3);
        Due.be("the last sort", x.deed(1, 1535), 4);
        Due.be("its end", x.deedEnd(4, 20, 20), CLASH);
    }

    /** Promise 14: "FULL" */
    static void deedsFull() {
        Still.after("deeds full", LandsEdgesTest::fullOfDeeds, x -> {
            Due.be("one more", x.deed(0, 0), FULL);
            Due.be("bad ahead of full", x.deed(0, 1536), BAD);
            Due.be("none ahead of full", x.deed(3, 0), NONE);
        });
    }

    /** Terms 2: "DEEDS 0 .. 59, as they come" */
    static void theLastDeed() {
        OneCode x = fullOfDeeds();
        Due.be("all", x.count(12), 60);
        Due.be("its end", x.deedEnd(59, 20, 20), 203);
        Due.be("none behind it", x.deedEnd(60, 20, 20), -5);
    }

    /** Promise 15: "-5: no such DEED; j is ahead of its DAY; k below 0" - no such DEED. */
    static void deedEndOfNone() {
        Still.rich("deedEnd none", x -> {
            for (int deed : new int[] {-1, LOW, 3, 59, 60, HIGH}) {
                Due.be("deedEnd(" + deed + ", 20, 20)", x.deedEnd(deed, 20, 20), -5);
            }
        });
    }

    /** Promise 15: "j is ahead of its DAY" */
    static void deedEndAheadOfItsDay() {
        Still.rich("deedEnd ahead", x -> {
            for (int j : new int[] {19, 0, -1, LOW}) {
                Due.be("j " + j, x.deedEnd(1, j, 20), -5);
            }
        });
        OneCode x = World.rich();
        Due.be("on its day", x.deedEnd(1, 20, 20), 0);
        Due.be("far behind it", x.deedEnd(1, HIGH, 20), 0);
        OneCode y = lawful();
        y.deed(0, DIED);
        Due.be("of day 0 on day 0", y.deedEnd(0, 0, 0), 200);
    }

    /** Promise 15: "k below 0" */
    static void deedEndKnownOnNoDay() {
        Still.rich("deedEnd k", x -> {
            Due.be("k -1", x.deedEnd(1, 20, -1), -5);
            Due.be("k far below", x.deedEnd(1, 20, LOW), -5);
        });
        OneCode x = World.untaped();
        Due.be("k 0", x.deedEnd(1, 20, 0), 0);
        Due.be("k far", x.deedEnd(1, 20, HIGH), 0);
        Due.be("one more rule", Due.custom(x, 1, 9, "to 0"), 8);
        Due.be("k ahead of its day", x.deedEnd(1, 20, 19), 0);
        Due.be("k on its day", x.deedEnd(1, 20, 20), 200);
    }

    /** Promise 16: "-5: none such" */
    static void lostOfNone() {
        Still.rich("lost none", x -> {
            for (int d : new int[] {-2, LOW, 3, 7, 8, HIGH}) {
                Due.be("lost(" + d + ", 0)", x.lost(d, 0), -5);
                Due.be("lost(" + d + ", 1)", x.lost(d, 1), -5);
            }
            for (int what : new int[] {-1, LOW, 2, HIGH}) {
                Due.be("lost(0, " + what + ")", x.lost(0, what), -5);
                Due.be("lost(-1, " + what + ")", x.lost(-1, what), -5);
            }
        });
    }

    /** Promise 16: "LOST DEEDS of a DISTRICT (-1: of all): how many (what 0), the first (1; -1)" */
    static void noneLost() {
        OneCode x = lawful();
        Due.be("no deeds of all", x.lost(-1, 0), 0);
        Due.be("no first of all", x.lost(-1, 1), -1);
        Due.be("no deeds of one", x.lost(0, 0), 0);
        Due.be("no first of one", x.lost(0, 1), -1);
        x.deed(1, DIED);
        x.deed(0, DIED);
        x.deed(0, 0);
        Due.be("deeds, but none lost", x.lost(-1, 0), 0);
        Due.be("no first of these", x.lost(-1, 1), -1);
        x.days(20);
        Due.be("one of all", x.lost(-1, 0), 1);
        Due.be("the first of all", x.lost(-1, 1), 1);
        Due.be("one of its district", x.lost(0, 0), 1);
        Due.be("none of the other", x.lost(1, 0), 0);
        Due.be("no first of the other", x.lost(1, 1), -1);
    }

    /** Terms 2: "It is LOST, if its END, judged and KNOWN NOW, is another one than judged and KNOWN on its own DAY" */
    static void lostFromTheDayOn() {
        OneCode x = lawful();
        x.deed(0, DIED);
        // What comes on the DAY of the DEED is KNOWN on it.
        Due.custom(x, 0, 2, "to 1");
        Due.be("told on its own day", x.lost(0, 0), 0);
        x.days(19);
        Due.be("the day ahead of the code", x.lost(0, 0), 0);
        x.days(1);
        Due.be("the first day of the code", x.lost(0, 0), 1);
        x.days(9);
        x.strike(2, 0);
        x.strike(3, 0);
        Due.be("without a saved one, as on its day", x.lost(0, 0), 0);
        x.strike(5, 0);
        Due.be("the custom changed behind it", x.lost(0, 0), 1);
    }

    // ---- courts

    /** Promise 17: "RULE of COURTS becomes r (0 .. 2; 2 at first): what it was. BAD" */
    static void courtsBad() {
        Still.rich("courts bad", x -> {
            for (int r : new int[] {-1, LOW, 3, HIGH}) {
                Due.be("courts(" + r + ")", x.courts(r), BAD);
            }
        });
        OneCode x = new OneCode();
        Due.be("two at first", x.courts(0), 2);
        Due.be("it was the least", x.courts(2), 0);
        Due.be("it was the most", x.courts(1), 2);
        Due.be("it was the one between", x.courts(1), 1);
        Due.be("bad", x.courts(3), BAD);
        Due.be("it stays", x.courts(0), 1);
    }

    /** Promise 18: "-5: as law()" */
    static void courtNone() {
        Still.rich("court none", x -> {
            for (int d : new int[] {-1, LOW, 3, 7, 8, HIGH}) {
                Due.be("first " + d, x.court(d, 0, 0, 20), -5);
                Due.be("second " + d, x.court(0, d, 0, 20), -5);
                Due.be("both " + d, x.court(d, d, 0, 20), -5);
            }
            for (int sort : new int[] {-1, LOW, 1536, HIGH}) {
                Due.be("sort " + sort, x.court(0, 1, sort, 20), -5);
            }
            for (int f : new int[] {-1, LOW, 21, HIGH}) {
                Due.be("f " + f, x.court(0, 1, 0, f), -5);
                Due.be("f " + f + " in one district", x.court(0, 0, 0, f), -5);
            }
        });
        OneCode x = World.rich();
        Due.be("of day 0", x.court(1, 1, 0, 0), 0);
        Due.be("of now", x.court(1, 1, 0, 20), 0);
    }

    /** Terms 2: "where they are one, that; else by its RULE (told: 0 of the first, 1 of the second, 2 it says nothing: -4)" */
    static void courtOfOneAndOfTwo() {
        OneCode x = new OneCode();
        Due.custom(x, 0, 0, "void if age=0");
        Due.custom(x, 0, 0, "to 1 if age<2");
        Due.custom(x, 1, 0, "void if age=1");
        Due.custom(x, 1, 0, "to 2 if age<2");
        Due.custom(x, 2, 0, "holds");
        x.district(0, 1);
        x.district(1, 1);
        x.district(2, 1);
        int clash = 0;
        int gap = Due.sort(0, 3, 0, 0, 0, 0);
        int one = Due.sort(0, 1, 0, 0, 0, 0);
        int[] due = {CLASH, 1, -4};
        for (int r = 0; r <= 2; r++) {
            x.courts(r);
            Due.be("two gaps are one", x.court(0, 1, gap, 0), GAP);
            Due.be("one and itself", x.court(2, 2, gap, 0), 1);
            Due.be("a clash and itself", x.court(0, 0, clash, 0), CLASH);
            Due.be("a clash and an end", x.court(0, 2, clash, 0), due[r]);
            Due.be("an end and a clash", x.court(2, 1, one, 0), r == 0 ? 1 : r == 1 ? CLASH : -4);
            Due.be("a gap and an end", x.court(0, 2, gap, 0), r == 0 ? GAP : due[r]);
            Due.be("two ends", x.court(0, 1, one, 0), r == 0 ? 201 : r == 1 ? CLASH : -4);
        }
        Due.be("two clashes are one", clashes().court(0, 1, 0, 0), CLASH);
    }

    private static OneCode clashes() {
        OneCode x = new OneCode();
        Due.custom(x, 0, 0, "void");
        Due.custom(x, 0, 0, "holds");
        Due.custom(x, 1, 3, "to 0");
        Due.custom(x, 1, 3, "to 1");
        x.district(0, 1);
        x.district(1, 1);
        return x;
    }

    // ---- unlike, wrong

    /** Promise 19: "-5: none such" */
    static void unlikeNone() {
        Still.rich("unlike none", x -> {
            for (int body : new int[] {-1, LOW, 6, HIGH}) {
                Due.be("a " + body, x.unlike(body, 0, 0), -5);
                Due.be("b " + body, x.unlike(0, body, 0), -5);
            }
            for (int what : new int[] {-1, LOW, 3, HIGH}) {
                Due.be("what " + what, x.unlike(0, 1, what), -5);
                Due.be("what " + what + " of one", x.unlike(0, 0, what), -5);
            }
        });
        OneCode x = World.rich();
        Due.be("the last two bodies", x.unlike(5, 4, 0), 1536);
        Due.be("the first two bodies", x.unlike(0, 1, 0), 1536);
    }

    /** Promise 19: "How many SORTS are UNLIKE for two BODIES (what 0), the least (1; -1), FIELDS that show it for this (2; -1)" */
    static void noneUnlike() {
        OneCode x = World.rich();
        for (int body = 0; body <= 5; body++) {
            Due.be("a body and itself", x.unlike(body, body, 0), 0);
            Due.be("no least", x.unlike(body, body, 1), -1);
            Due.be("no fields", x.unlike(body, body, 2), -1);
        }
        Due.be("two empty ones", x.unlike(2, 3, 0), 0);
        Due.be("two empty ones, no least", x.unlike(2, 3, 1), -1);
        Due.be("two empty ones, no fields", x.unlike(2, 3, 2), -1);
    }

    /** Terms 2: "SORTS with unlike ANSWERS (CLASH and GAP are ANSWERS, too)" */
    static void clashesAndGapsAreAnswers() {
        OneCode x = clashes();
        Due.be("two clashes", x.unlike(0, 1, 0), 0);
        Due.be("a clash and a gap", x.unlike(0, 2, 0), 1536);
        Due.be("a gap and a clash", x.unlike(2, 1, 0), 1536);
        Due.custom(x, 3, 0, "void");
        Due.be("a clash and an end", x.unlike(0, 3, 0), 1536);
        Due.be("an end and a gap", x.unlike(3, 2, 0), 1536);
        Due.be("two gaps", x.unlike(2, 4, 0), 0);
    }

    /** Terms 2: "UNLIKE of two BODIES (LINES of the CODE), AS OF and KNOWN NOW" */
    static void unlikeFromTheDayOn() {
        OneCode x = new OneCode();
        Due.rule(x, "void", 0, 1, 0, 2, 0);
        Due.rule(x, "void", 5, 5, 9, 0, 0);
        x.days(1);
        Due.be("the day ahead", x.unlike(0, 5, 0), 0);
        x.days(1);
        Due.be("on the day", x.unlike(0, 5, 0), 1536);
        x.strike(0, 3);
        Due.be("ahead of the strike", x.unlike(0, 5, 0), 1536);
        x.days(1);
        Due.be("struck", x.unlike(0, 5, 0), 0);
    }

    /** Terms 2: "the fewest FIELDS, of several the least bits, such that all SORTS that have the same in these are such, too" */
    static void noFieldAndAllFields() {
        OneCode x = new OneCode();
        Due.custom(x, 0, 0, "void");
        Due.be("all sorts: no field", x.unlike(0, 1, 2), 0);
        Due.custom(x, 2, 0, "void if what=3 and age=3 and house=2 and kids=3 and goods=3");
        Due.custom(x, 3, 0, "void if what=3 and age=3 and house=2 and kids=3 and goods=3");
        Due.custom(x, 3, 1, "holds if oath=1");
        Due.custom(x, 2, 1, "holds if oath=1");
        Due.custom(x, 2, 1, "holds if oath=0");
        // Unlike are the sorts without an oath: one that custom 3 answers, and the others.
        Due.be("all without an oath", x.unlike(2, 3, 0), 768);
        Due.be("one field", x.unlike(2, 3, 2), 16);
        Due.custom(x, 4, 0, "void if what=3 and age=3 and house=2 and kids=3 and goods=3");
        Due.custom(x, 4, 1, "holds if oath=1");
        Due.custom(x, 1, 1, "holds if oath=1");
        Due.be("one sort", x.unlike(4, 1, 0), 1);
        Due.be("the last without an oath", x.unlike(4, 1, 1), 1535 - 4);
        Due.be("all six fields", x.unlike(4, 1, 2), 63);
        Due.custom(x, 4, 2, "to 0 if goods=0");
        Due.be("the least of several", x.unlike(4, 1, 1), 0);
        Due.be("the last field alone", x.unlike(4, 1, 2), 32);
        Due.custom(x, 4, 2, "to 0 if what=0");
        Due.be("of two the least bits", x.unlike(4, 1, 2), 1);
    }

    /** Terms 2: "such that all SORTS that have the same in these are such, too" - all SORTS but the first, all but the last. */
    static void allSortsButOne() {
        OneCode x = new OneCode();
        Due.custom(x, 0, 0, "void if what>0 or age>0 or house>0 or kids>0 or oath>0");
        Due.custom(x, 0, 0, "void if goods>0");
        Due.be("all but the first", x.unlike(0, 5, 0), 1535);
        Due.be("the least is the second", x.unlike(0, 5, 1), 1);
        Due.be("its goods show it", x.unlike(0, 5, 2), 32);
        Due.be("one gap", x.wrong(0, 1, 0), 1);
        Due.be("the first", x.wrong(0, 1, 1), 0);
        Due.be("all fields show it", x.wrong(0, 1, 2), 63);
        Due.custom(x, 1, 0, "void if what<3 or age<3 or house<2 or kids<3 or oath<1");
        Due.custom(x, 1, 0, "void if goods<3");
        Due.be("all but the last", x.unlike(5, 1, 0), 1535);
        Due.be("the least is the first", x.unlike(5, 1, 1), 0);
        Due.be("any field shows it: the least bits", x.unlike(5, 1, 2), 1);
        Due.be("one gap at the end", x.wrong(1, 1, 0), 1);
        Due.be("the last", x.wrong(1, 1, 1), 1535);
        Due.be("all fields show the last", x.wrong(1, 1, 2), 63);
    }

    /** Promise 20: "-5: none such" */
    static void wrongNone() {
        Still.rich("wrong none", x -> {
            for (int body : new int[] {-1, LOW, 6, HIGH}) {
                Due.be("body " + body, x.wrong(body, 0, 0), -5);
                Due.be("body " + body + ", gaps", x.wrong(body, 1, 0), -5);
            }
            for (int n : new int[] {-1, LOW, 2, HIGH}) {
                Due.be("which " + n, x.wrong(1, n, 0), -5);
            }
            for (int n : new int[] {-1, LOW, 3, HIGH}) {
                Due.be("what " + n, x.wrong(1, 0, n), -5);
                Due.be("what " + n + ", gaps", x.wrong(1, 1, n), -5);
            }
        });
    }

    /** Promise 20: "CLASHES (which 0) or GAPS (1) of a BODY: what as of unlike()" */
    static void noneWrong() {
        OneCode x = clashes();
        Due.be("all clash", x.wrong(0, 0, 0), 1536);
        Due.be("the least", x.wrong(0, 0, 1), 0);
        Due.be("no field needed", x.wrong(0, 0, 2), 0);
        Due.be("no gap", x.wrong(0, 1, 0), 0);
        Due.be("no least gap", x.wrong(0, 1, 1), -1);
        Due.be("no fields of a gap", x.wrong(0, 1, 2), -1);
        Due.be("all gaps", x.wrong(5, 1, 0), 1536);
        Due.be("the least gap", x.wrong(5, 1, 1), 0);
        Due.be("no field needed of a gap", x.wrong(5, 1, 2), 0);
        Due.be("no clash", x.wrong(5, 0, 0), 0);
        Due.be("no least clash", x.wrong(5, 0, 1), -1);
        Due.be("no fields of a clash", x.wrong(5, 0, 2), -1);
        Due.custom(x, 4, 0, "void if not what=3 or not age=3 or not house=2 or not kids=3 or not goods=3");
        Due.be("the last sorts are gaps", x.wrong(4, 1, 0), 2);
        Due.be("the last but four", x.wrong(4, 1, 1), 1531);
        Due.be("all fields but the oath", x.wrong(4, 1, 2), 47);
    }

    /** Terms 2: "CLASHES, GAPS of one: SORTS with that ANSWER" */
    static void aClashIsNoGap() {
        OneCode x = new OneCode();
        Due.custom(x, 0, 0, "void if what=0");
        Due.custom(x, 0, 0, "holds if what=0 and age=0");
        Due.be("clashes", x.wrong(0, 0, 0), 96);
        Due.be("gaps", x.wrong(0, 1, 0), 1152);
        Due.rule(x, "to 0", 5, 4, 0, 0, 0);
        Due.rule(x, "to 1", 5, 5, 0, 0, 0);
        Due.be("lines of the code", x.wrong(5, 0, 0), 0);
        Due.be("lines of the code, gaps", x.wrong(5, 1, 0), 0);
    }
}
