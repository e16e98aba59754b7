/** The boundary cases of promises 37 to 44 and of CARRY and LANDS in part 5 of the Terms: each sentence has a test of its own. */
public final class SectionsEdgesTest {
    private static final int NONE = -1, BAD = -2, STATE = -3, FULL = -4;
    private static final int LOW = Integer.MIN_VALUE, HIGH = Integer.MAX_VALUE;

    public static void main(String[] args) throws Exception {
        Each.run(SectionsEdgesTest.class);
    }

    /** So many SECTIONS, and LINES of these costs. */
    private static OneCode table(int sections, int... costs) {
        OneCode x = new OneCode();
        for (int i = 0; i < sections; i++) {
            Due.be("section", x.section(), i);
        }
        for (int i = 0; i < costs.length; i++) {
            Due.be("line", x.line(costs[i]), i);
        }
        return x;
    }

    private static OneCode fullTable() {
        OneCode x = World.rich();
        for (int i = 3; i < 7; i++) {
            Due.be("line", x.line(i), i);
        }
        for (int i = 3; i < 9; i++) {
            Due.be("section", x.section(), i);
            x.like(i, 6, -i);
        }
        return x;
    }

    private static OneCode lands(int n) {
        OneCode x = new OneCode();
        for (int i = 0; i < n; i++) {
            Due.be("district", x.district(0, 1), i);
        }
        return x;
    }

    // ---- line, section

    /** Promise 37: "its number. BAD; FULL" - BAD; Terms 5: "each with a cost of yielding, 0 .. 99" */
    static void lineOfTooLowOrTooHighACost() {
        Still.rich("line bad", x -> {
            for (int cost : new int[] {-1, LOW, 100, HIGH}) {
                Due.be("cost " + cost, x.line(cost), BAD);
            }
        });
        OneCode x = table(1, 0, 99);
        x.like(0, 0, -1);
        Due.be("to yield the one for nothing", x.least(1), 0);
        x.like(0, 1, -1);
        Due.be("to yield the one for most", x.least(1), 99);
    }

    /** Promise 37: "BAD; FULL" - FULL. */
    static void linesFull() {
        Still.after("lines full", SectionsEdgesTest::fullTable, x -> {
            Due.be("one more", x.line(0), FULL);
            Due.be("bad ahead of full", x.line(100), BAD);
            Due.be("bad ahead of full, below", x.line(-1), BAD);
        });
    }

    /** Terms 5: "each with a liking (-9 .. 9) for LINES 0 .. 6 on the TABLE (as they come" */
    static void theLastLine() {
        OneCode x = table(1, 99, 99, 99, 99, 99, 99, 99);
        Due.be("all", x.count(7), 7);
        Due.be("liked", x.like(0, 6, -9), 0);
        Due.be("not carried", x.yes(0), 0);
        Due.be("the last yielded", x.yes(64), 1);
        Due.be("all yielded", x.yes(127), 1);
        Due.be("a bit of none", x.yes(128), NONE);
        Due.be("the least set", x.least(0), 64);
        Due.be("none behind it", x.like(0, 7, 0), -100);
        for (int line = 0; line < 7; line++) {
            x.like(0, line, -9);
        }
        Due.be("all must go", x.least(0), 127);
        Due.be("the most that it costs", x.least(1), 7 * 99);
    }

    /** Promise 38: "FULL" */
    static void sectionsFull() {
        Still.after("sections full", SectionsEdgesTest::fullTable, x -> {
            Due.be("one more", x.section(), FULL);
            Due.be("and one more", x.section(), FULL);
        });
    }

    /** Terms 5: "SECTIONS 0 .. 8, as they come" */
    static void theLastSection() {
        OneCode x = table(9, 5);
        Due.be("all", x.count(8), 9);
        Due.be("all say yes", x.yes(0), 9);
        Due.be("liked", x.like(8, 0, -1), 0);
        Due.be("all but the last", x.yes(0), 8);
        Due.be("none behind it", x.like(9, 0, 0), -100);
    }

    /** Promise 38: "A SECTION, that likes nothing and hates nothing" */
    static void aNewSection() {
        OneCode x = table(9, 1, 1, 1, 1, 1, 1, 1);
        for (int section = 0; section < 9; section++) {
            for (int line = 0; line < 7; line++) {
                Due.be("liking of " + section + " for " + line, x.like(section, line, 0), 0);
            }
        }
        OneCode y = table(1, 1);
        y.like(0, 0, -3);
        y.section();
        y.line(1);
        Due.be("a later one", y.like(1, 0, 0), 0);
        Due.be("for a later line", y.like(0, 1, 0), 0);
        Due.be("the first is as it was", y.like(0, 0, 0), -3);
    }

    // ---- like, yes, least

    /** Promise 39: "-100: NONE, BAD" - NONE. */
    static void likeNone() {
        Still.rich("like none", x -> {
            for (int section : new int[] {-1, LOW, 3, 8, 9, HIGH}) {
                Due.be("section " + section, x.like(section, 0, 1), -100);
                Due.be("section " + section + ", bad", x.like(section, 0, 10), -100);
            }
            for (int line : new int[] {-1, LOW, 3, 6, 7, HIGH}) {
                Due.be("line " + line, x.like(0, line, 1), -100);
            }
        });
        OneCode x = new OneCode();
        Due.be("no section and no line", x.like(0, 0, 0), -100);
        x.section();
        Due.be("no line", x.like(0, 0, 0), -100);
    }

    /** Promise 39: "-100: NONE, BAD" - BAD; Terms 5: "a liking (-9 .. 9)" */
    static void likeTooLittleOrTooMuch() {
        Still.rich("like bad", x -> {
            for (int v : new int[] {-10, LOW, 10, HIGH}) {
                Due.be("liking " + v, x.like(0, 0, v), -100);
            }
        });
        OneCode x = table(1, 1);
        Due.be("least", x.like(0, 0, -9), 0);
        Due.be("most", x.like(0, 0, 9), -9);
        Due.be("it was the most", x.like(0, 0, -9), 9);
        Due.be("it was the least", x.like(0, 0, 0), -9);
    }

    /** Promise 40: "How many SECTIONS say yes, if a set of LINES is yielded. NONE: a bit of none" */
    static void yesOfNoLine() {
        Still.rich("yes none", x -> {
            for (int set : new int[] {8, 9, 15, 16, 64, 127, 128, 1 << 30, HIGH, -1, -8, LOW}) {
                Due.be("yes(" + set + ")", x.yes(set), NONE);
            }
        });
        OneCode x = new OneCode();
        Due.be("nothing at all", x.yes(0), 0);
        Due.be("no line", x.yes(1), NONE);
        OneCode y = table(2, 1, 1, 1);
        Due.be("nothing yielded", y.yes(0), 2);
        Due.be("all yielded", y.yes(7), 2);
        Due.be("one more", y.yes(8), NONE);
    }

    /** Terms 5: "a SECTION says yes, if its likings of those kept come to 0 or more" */
    static void yesFromNoneOn() {
        OneCode x = table(1, 1, 1);
        Due.be("nothing liked", x.yes(0), 1);
        x.like(0, 0, 4);
        x.like(0, 1, -4);
        Due.be("to 0", x.yes(0), 1);
        x.like(0, 1, -5);
        Due.be("to -1", x.yes(0), 0);
        x.like(0, 1, -3);
        Due.be("to 1", x.yes(0), 1);
        Due.be("the liked one yielded", x.yes(1), 0);
        Due.be("the hated one yielded", x.yes(2), 1);
        Due.be("nothing kept", x.yes(3), 1);
        OneCode y = table(1);
        Due.be("no line at all", y.yes(0), 1);
    }

    /** Promise 41: "NONE: what; STATE: nothing carries it" - NONE: what. */
    static void leastNone() {
        Still.rich("least none", x -> {
            for (int what : new int[] {-1, LOW, 2, HIGH}) {
                Due.be("least(" + what + ")", x.least(what), NONE);
            }
        });
        Due.be("none ahead of state", new OneCode().least(2), NONE);
    }

    /** Promise 41: "STATE: nothing carries it" */
    static void leastOfNothing() {
        Still.after("least state", () -> table(0, 4, 5), x -> {
            Due.be("no section", x.least(0), STATE);
            Due.be("no section, cost", x.least(1), STATE);
        });
        Due.be("nothing at all", new OneCode().least(0), STATE);
        OneCode x = table(1, 4, 5);
        x.like(0, 0, -9);
        x.like(0, 1, -9);
        Due.be("with all yielded one section carries it", x.least(0), 3);
    }

    /** Terms 5: "CARRIED: by more than half of the SECTIONS" */
    static void moreThanHalf() {
        for (int sections = 1; sections <= 9; sections++) {
            for (int yes = 0; yes <= sections; yes++) {
                OneCode x = table(sections, 7);
                for (int s = yes; s < sections; s++) {
                    x.like(s, 0, -1);
                }
                Due.be(yes + " of " + sections + " say yes", x.yes(0), yes);
                Due.be(yes + " of " + sections, x.least(0), yes > sections / 2.0 ? 0 : 1);
                Due.be(yes + " of " + sections + ", cost", x.least(1), yes > sections / 2.0 ? 0 : 7);
            }
        }
    }

    /** Terms 5: "of all sets of LINES to yield with which it is carried that of the least cost" */
    static void theLeastCost() {
        OneCode x = table(1, 3, 1, 1);
        x.like(0, 0, -2);
        x.like(0, 1, -1);
        x.like(0, 2, -1);
        Due.be("all", x.least(0), 7);
        x.like(0, 1, -9);
        x.like(0, 2, 9);
        // Without the second 7 is left; without the first 0 -2: the second alone costs less.
        Due.be("the cheaper", x.least(0), 2);
        x.like(0, 1, -7);
        Due.be("nothing to yield", x.least(0), 0);
        Due.be("no cost", x.least(1), 0);
    }

    /** Terms 5: "of several the fewest, then the least bits" */
    static void theFewestThenTheLeastBits() {
        OneCode x = table(1, 1, 1, 2, 2);
        x.like(0, 0, -2);
        x.like(0, 1, -2);
        x.like(0, 2, -4);
        x.like(0, 3, 4);
        // The first two or the third alone bring it to 0, for 2 either: the fewest.
        Due.be("the fewest", x.least(0), 4);
        Due.be("their cost", x.least(1), 2);
        OneCode y = table(1, 3, 3, 3);
        y.like(0, 0, -1);
        y.like(0, 1, -1);
        y.like(0, 2, 1);
        Due.be("the least bits", y.least(0), 1);
        y.like(0, 0, 1);
        y.like(0, 2, -1);
        Due.be("the least bits of the last two", y.least(0), 2);
        OneCode z = table(1, 0, 0);
        Due.be("lines that cost nothing are not yielded for it", z.least(0), 0);
    }

    // ---- teach

    /** Promise 42: "NONE: district, what; BAD" - NONE. */
    static void teachNone() {
        Still.rich("teach none", x -> {
            for (int d : new int[] {-1, LOW, 3, 7, 8, HIGH}) {
                Due.be("teach(" + d + ", 0, 2)", x.teach(d, 0, 2), NONE);
                Due.be("teach(" + d + ", 1, 2)", x.teach(d, 1, 2), NONE);
                Due.be("teach(" + d + ", 2, -1)", x.teach(d, 2, -1), NONE);
                Due.be("none ahead of bad", x.teach(d, 0, 0), NONE);
            }
            for (int what : new int[] {-1, LOW, 3, HIGH}) {
                Due.be("teach(0, " + what + ", 1)", x.teach(0, what, 1), NONE);
                Due.be("none ahead of bad", x.teach(0, what, -9), NONE);
            }
        });
    }

    /** Promise 42: "BAD" - MONTHS; Terms 5: "each its MONTHS (1 .. 12; 1 at first)" */
    static void teachTooFewOrTooManyMonths() {
        Still.rich("teach months", x -> {
            for (int v : new int[] {0, -1, LOW, 13, HIGH}) {
                Due.be("months " + v, x.teach(0, 0, v), BAD);
            }
        });
        OneCode x = lands(8);
        for (int d = 0; d < 8; d++) {
            Due.be("one at first", x.teach(d, 0, 12), 1);
            Due.be("most", x.teach(d, 0, 1), 12);
            Due.be("least", x.teach(d, 0, 1), 1);
        }
    }

    /** Promise 42: "BAD" - CASES waiting; Terms 5: "with CASES waiting each MONTH (0 .. 99; 0 at first)" */
    static void teachTooFewOrTooManyCases() {
        Still.rich("teach cases", x -> {
            for (int v : new int[] {-1, LOW, 100, HIGH}) {
                Due.be("cases " + v, x.teach(0, 1, v), BAD);
            }
        });
        OneCode x = lands(8);
        for (int d = 0; d < 8; d++) {
            Due.be("none at first", x.teach(d, 1, 99), 0);
            Due.be("most", x.teach(d, 1, 0), 99);
            Due.be("least", x.teach(d, 1, 0), 0);
        }
    }

    /** Promise 42: "behind which it is (2; -1 none) becomes v" */
    static void teachBehindNoDistrict() {
        Still.rich("teach behind none such", x -> {
            for (int v : new int[] {-2, LOW, 3, 7, 8, HIGH}) {
                Due.be("behind " + v, x.teach(0, 2, v), BAD);
                Due.be("2 behind " + v, x.teach(2, 2, v), BAD);
            }
        });
        OneCode x = lands(8);
        for (int d = 0; d < 8; d++) {
            Due.be("none at first", x.teach(d, 2, -1), -1);
        }
        Due.be("behind the last", x.teach(0, 2, 7), -1);
        Due.be("behind none", x.teach(0, 2, -1), 7);
        Due.be("behind the first", x.teach(7, 2, 0), -1);
        Due.be("behind none again", x.teach(7, 2, -1), 0);
    }

    /** Promise 42: "BAD: also behind itself" */
    static void teachBehindItself() {
        Still.rich("teach behind itself", x -> {
            for (int d = 0; d <= 2; d++) {
                Due.be(d + " behind itself", x.teach(d, 2, d), BAD);
            }
        });
        Due.be("one alone", lands(1).teach(0, 2, 0), BAD);
    }

    /** Promise 42: "or if they would go round" */
    static void teachRound() {
        // District 2 is behind 0.
        Still.rich("teach round", x -> Due.be("0 behind 2", x.teach(0, 2, 2), BAD));
        Still.after("teach round by eight", SectionsEdgesTest::chain, x -> {
            for (int d = 1; d < 8; d++) {
                Due.be("0 behind " + d, x.teach(0, 2, d), BAD);
            }
            Due.be("3 behind 4", x.teach(3, 2, 4), BAD);
            Due.be("3 behind 7", x.teach(3, 2, 7), BAD);
            Due.be("6 behind 7", x.teach(6, 2, 7), BAD);
        });
        OneCode x = chain();
        Due.be("the last behind the first", x.teach(7, 2, 0), 6);
        Due.be("the last but one behind it", x.teach(6, 2, 7), 5);
        Due.be("the first behind it", x.teach(0, 2, 7), BAD);
        Due.be("the chain is cut", x.teach(7, 2, -1), 0);
        Due.be("then the first is behind it", x.teach(0, 2, 7), -1);
    }

    /** Each of eight districts behind the one ahead of it. */
    private static OneCode chain() {
        OneCode x = lands(8);
        for (int d = 1; d < 8; d++) {
            x.teach(d, 2, d - 1);
            x.teach(d, 1, d);
        }
        return x;
    }

    // ---- waits, taught

    /** Promise 43: "NONE: there is no DISTRICT" */
    static void waitsOfNoDistrict() {
        Still.after("waits none", OneCode::new, x -> Due.be("waits()", x.waits(), NONE));
        OneCode x = lands(1);
        Due.be("one, none waiting", x.waits(), 0);
        x.teach(0, 1, 99);
        x.teach(0, 0, 12);
        Due.be("one, the most", x.waits(), 99 * 12);
    }

    /** Terms 5: "The ROW of all DISTRICTS that waits least: the sum of waiting CASES times when each is done" */
    static void theMostThatWaits() {
        OneCode x = lands(8);
        Due.be("none at first", x.waits(), 0);
        for (int d = 0; d < 8; d++) {
            x.teach(d, 0, 12);
            x.teach(d, 1, 99);
        }
        Due.be("all the most", x.waits(), 99 * 12 * 36);
        Due.be("forced into a row", chainedMost().waits(), 99 * 12 * 36);
        OneCode y = chain();
        Due.be("a chain", y.waits(), 2 + 2 * 3 + 3 * 4 + 4 * 5 + 5 * 6 + 6 * 7 + 7 * 8);
    }

    private static OneCode chainedMost() {
        OneCode x = lands(8);
        for (int d = 0; d < 8; d++) {
            x.teach(d, 0, 12);
            x.teach(d, 1, 99);
            x.teach(d, 2, d == 7 ? -1 : d + 1);
        }
        Due.be("the last is first", x.taught(0), 7);
        Due.be("the first is last", x.taught(7), 0);
        return x;
    }

    /** Terms 5: "of several the first (the lesser DISTRICT at the first place where they differ)" */
    static void theFirstRowOfSeveral() {
        OneCode x = lands(8);
        for (int i = 0; i < 8; i++) {
            Due.be("place " + i, x.taught(i), i);
        }
        x.teach(0, 2, 7);
        int[] behind = {1, 2, 3, 4, 5, 6, 7, 0};
        for (int i = 0; i < 8; i++) {
            Due.be("behind the last, place " + i, x.taught(i), behind[i]);
        }
        x.teach(0, 2, 3);
        int[] soon = {1, 2, 3, 0, 4, 5, 6, 7};
        for (int i = 0; i < 8; i++) {
            Due.be("behind another, place " + i, x.taught(i), soon[i]);
        }
        OneCode y = lands(3);
        y.teach(1, 0, 2);
        y.teach(1, 1, 4);
        y.teach(0, 1, 2);
        // 2 MONTHS for 4 wait as long behind as 1 MONTH for 2: either row of the two is least.
        Due.be("the lesser first", y.taught(0), 0);
        Due.be("then the other", y.taught(1), 1);
        Due.be("nobody waits for the last", y.taught(2), 2);
        Due.be("least", y.waits(), 2 + 4 * 3);
    }

    /** Terms 5: "some only behind another one (told; none at first)" */
    static void behindNoneAtFirst() {
        OneCode x = lands(2);
        x.teach(1, 1, 1);
        Due.be("the one that waits first", x.taught(0), 1);
        x.teach(1, 2, 0);
        Due.be("behind the other", x.taught(0), 0);
        Due.be("then it", x.taught(1), 1);
        Due.be("waits", x.waits(), 2);
        x.teach(1, 2, -1);
        Due.be("behind none again", x.taught(0), 1);
        Due.be("waits again", x.waits(), 1);
    }

    /** Promise 44: "NONE: none such" */
    static void taughtNone() {
        Still.rich("taught none", x -> {
            for (int i : new int[] {-1, LOW, 3, 7, 8, HIGH}) {
                Due.be("taught(" + i + ")", x.taught(i), NONE);
            }
        });
        Due.be("no district", new OneCode().taught(0), NONE);
        Due.be("the last of eight", lands(8).taught(7), 7);
        Due.be("none behind eight", lands(8).taught(8), NONE);
    }
}
