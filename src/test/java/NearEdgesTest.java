/** The boundary cases of promises 34 to 36 and of NEAR in part 5 of the Terms: each sentence has a test of its own. */
public final class NearEdgesTest {
    private static final int NONE = -1, BAD = -2, FULL = -4;
    private static final int LOW = Integer.MIN_VALUE, HIGH = Integer.MAX_VALUE;

    public static void main(String[] args) throws Exception {
        Each.run(NearEdgesTest.class);
    }

    private static OneCode taped() {
        OneCode x = World.untaped();
        Due.feed(x, "to 2 if age=1");
        return x;
    }

    /** SLOTS 0 and 3 have three WAYS each. */
    private static OneCode fullSlots() {
        OneCode x = World.untaped();
        Due.be("third of slot 0", Due.way(x, 0, 9, "void"), 2);
        Due.be("second of slot 3", Due.way(x, 3, 9, "void"), 1);
        Due.be("third of slot 3", Due.way(x, 3, 0, "void if kids=1"), 2);
        Due.feed(x, "to 2 if age=1");
        return x;
    }

    /** District 0 (10 people): "void" where what is 0 or 1; district 1 (7 people): "holds" where what is 1 or 2. */
    private static OneCode customs() {
        OneCode x = new OneCode();
        Due.custom(x, 0, 0, "void if what<2");
        Due.custom(x, 1, 0, "holds if what>0 and what<3");
        x.district(0, 10);
        x.district(1, 7);
        return x;
    }

    // ---- way

    /** Promise 34: "NONE: slot; BAD: rank; FULL (all three: THE TAPE stays)" - NONE: slot. */
    static void wayOfNoSlot() {
        Still.after("way none", NearEdgesTest::taped, x -> {
            for (int slot : new int[] {-1, LOW, 5, 6, HIGH}) {
                Due.be("slot " + slot, x.way(slot, 0), NONE);
                Due.be("none ahead of bad", x.way(slot, 10), NONE);
            }
        });
        OneCode x = World.rich();
        Due.be("none ahead of a fault", x.way(5, 0), NONE);
        Due.be("the tape stays", x.count(9), 11);
    }

    /** Promise 34: "BAD: rank" */
    static void wayOfNoRank() {
        Still.after("way bad", NearEdgesTest::taped, x -> {
            for (int rank : new int[] {-1, LOW, 10, HIGH}) {
                Due.be("rank " + rank, x.way(0, rank), BAD);
                Due.be("rank " + rank + " of an empty slot", x.way(4, rank), BAD);
            }
        });
        OneCode x = World.rich();
        Due.be("bad ahead of a fault", x.way(0, 10), BAD);
        Due.be("the tape stays", x.count(9), 11);
    }

    /** Promise 34: "FULL (all three: THE TAPE stays)" */
    static void slotsFull() {
        Still.after("ways full", NearEdgesTest::fullSlots, x -> {
            Due.be("slot 0", x.way(0, 0), FULL);
            Due.be("slot 3", x.way(3, 9), FULL);
            Due.be("bad ahead of full", x.way(3, 10), BAD);
            Due.be("the tape stays", x.count(9), 13);
        });
        OneCode x = fullSlots();
        x.way(0, 0);
        Due.be("another slot has room", x.way(1, 0), 0);
        Due.feed(x, "no way");
        Due.be("full ahead of a fault", x.way(0, 0), FULL);
        Due.be("the tape stays", x.count(9), 6);
    }

    /** Terms 5: "SLOTS 0 .. 4 have WAYS (0 .. 2, as they come; RULES' texts), each of a RANK" */
    static void theLastSlotAndTheLastWay() {
        OneCode x = customs();
        for (int slot = 0; slot <= 4; slot++) {
            for (int n = 0; n <= 2; n++) {
                Due.be("way " + n + " of " + slot, Due.way(x, slot, n == 0 ? 0 : 9, n == 2 ? "void" : "void if age=9"), n);
            }
        }
        Due.be("all ways", x.count(10), 15);
        Due.be("the last writing", x.keeps(0b1010101010), 768 * 10);
        Due.be("the last way of the last slot", x.keeps(512), 768 * 10);
        Due.be("the first writing", x.keeps(0), 0);
    }

    /** Promise 34: "of a RANK: its number" - the least and the greatest RANK. */
    static void leastAndGreatestRank() {
        OneCode x = customs();
        Due.be("line", Due.line(x, 9, "holds if what=1"), 2);
        Due.be("line", Due.line(x, 0, "holds if what=0"), 3);
        Due.be("rank 0", Due.way(x, 0, 0, "void"), 0);
        Due.be("rank 9", Due.way(x, 0, 9, "void"), 1);
        // Beside "holds": of RANK 0 a CLASH where what is 0, of RANK 9 one where what is 1.
        Due.be("what 1 by the line", x.keeps(0), 384 * 7);
        Due.be("what 0 by the way", x.keeps(1), 384 * 10);
    }

    /** Promise 34: "-10 less the FAULT. (THE TAPE is empty then.)" */
    static void wayByAFault() {
        OneCode x = new OneCode();
        Due.be("an empty tape", x.way(0, 0), -10);
        Due.be("a fault", Due.way(x, 0, 0, "void if age=1 "), -24);
        Due.be("the tape is empty", x.count(9), 0);
        Due.be("no way came", x.count(10), 0);
        Due.be("a way", Due.way(x, 0, 0, "void if age=1"), 0);
        Due.be("the tape is empty again", x.count(9), 0);
        Due.be("ninety bytes", Due.way(x, 0, 0, "owed 99 unless not house=1 and not house=1 and not house=1"
            + " and not house=1 and not house=1"), 1);
        Still.after("a faulty way", World::untaped, y -> {
            Due.be("an empty tape", y.way(0, 0), -10);
            Due.be("a fault", Due.way(y, 4, 0, "to 4"), -13);
        });
    }

    // ---- keeps, near

    /** Promise 35: "-5: a SLOT with WAYS has none such, one without has a digit above 0" */
    static void keepsNone() {
        Still.rich("keeps none", x -> {
            // SLOT 0 has two WAYS, SLOT 3 has one.
            Due.be("slot 0 has no third", x.keeps(2), -5);
            Due.be("slot 0 has no fourth", x.keeps(3), -5);
            Due.be("slot 3 has no second", x.keeps(64), -5);
            Due.be("slot 3 has no fourth", x.keeps(192), -5);
            Due.be("slot 3 has no second, beside another", x.keeps(65), -5);
            for (int digit = 1; digit <= 3; digit++) {
                Due.be("slot 1 has none", x.keeps(4 * digit), -5);
                Due.be("slot 2 has none", x.keeps(16 * digit), -5);
                Due.be("slot 4 has none", x.keeps(256 * digit), -5);
            }
            Due.be("both other slots without", x.keeps(4 + 16 + 256), -5);
        });
        OneCode x = World.rich();
        Due.be("the first", x.keeps(0) >= 0 ? 1 : 0, 1);
        Due.be("the second", x.keeps(1) >= 0 ? 1 : 0, 1);
    }

    /** Promise 35: "WAYS as digits to the base 4, SLOT 0's the lowest" - numbers that no digits of five SLOTS make. */
    static void keepsOfNoWriting() {
        Still.rich("keeps of no writing", x -> {
            for (int writing : new int[] {-1, -2, -4, LOW, LOW + 1, 1024, 1025, 2048, 4096, 1 << 20, 1 << 30, HIGH}) {
                Due.be("keeps(" + writing + ")", x.keeps(writing), -5);
            }
        });
        OneCode x = new OneCode();
        Due.be("no ways", x.keeps(0), 0);
        for (int writing : new int[] {1, 4, 16, 64, 256, 1024, -1}) {
            Due.be("no ways, keeps(" + writing + ")", x.keeps(writing), -5);
        }
    }

    /** Terms 5: "A WRITING takes one WAY of each SLOT that has some, as LINES beside those in force NOW" */
    static void noWaysAtAll() {
        OneCode x = customs();
        Due.be("nothing is written", x.keeps(0), 0);
        Due.be("line", Due.line(x, 0, "void"), 2);
        Due.be("the lines alone", x.keeps(0), 768 * 10);
        Due.be("saved", Due.rule(x, "holds", 5, 5, 9, 0, 0), 3);
        Due.be("saved ones are no lines", x.keeps(0), 768 * 10);
        Due.be("later", Due.rule(x, "holds", 5, 4, 9, 2, 0), 4);
        x.days(1);
        Due.be("the day ahead", x.keeps(0), 768 * 10);
        x.days(1);
        Due.be("on its day", x.keeps(0), 768 * 7);
        Due.be("near is that", x.near(0), 0);
        Due.be("and keeps as much", x.near(1), 768 * 7);
    }

    /** Terms 5: "A WRITING takes one WAY of each SLOT that has some" - also of one that has but one. */
    static void oneWayAlone() {
        for (int slot = 0; slot <= 4; slot++) {
            OneCode x = customs();
            Due.be("the one way", Due.way(x, slot, 0, "void if what=0"), 0);
            Due.be("it is taken", x.near(0), 0);
            Due.be("it keeps where it fits alone", x.near(1), 384 * 10);
            Due.be("as it is", x.keeps(0), 384 * 10);
            Due.be("line", Due.line(x, 0, "void if what=1"), 2);
            Due.be("beside a line", x.near(1), 768 * 10);
            Due.be("one way of another slot, that clashes", Due.way(x, (slot + 1) % 5, 0, "holds if what=0"), 0);
            Due.be("both are taken", x.near(1), 384 * 10);
        }
    }

    /** Terms 5: "over DISTRICTS and SORTS the PEOPLE, where ANSWER of the CODE's LINES and these is that of the CUSTOM" - of all five CUSTOMS. */
    static void allCustoms() {
        OneCode x = new OneCode();
        for (int custom = 0; custom <= 4; custom++) {
            Due.be("rule", Due.custom(x, custom, 0, "owed " + custom), custom);
            Due.be("district", x.district(custom, 1 + custom), custom);
        }
        Due.way(x, 0, 0, "owed 4");
        Due.way(x, 0, 0, "owed 00");
        Due.way(x, 0, 0, "owed 5");
        Due.be("that of custom 4", x.keeps(0), 1536 * 5);
        Due.be("that of custom 0", x.keeps(1), 1536);
        Due.be("that of none", x.keeps(2), 0);
        Due.be("near", x.near(0), 0);
        Due.be("near, how much", x.near(1), 1536 * 5);
    }

    /** Terms 5: "CLASHES and GAPS are never KEPT" */
    static void clashesAndGapsAreNeverKept() {
        OneCode x = new OneCode();
        Due.be("nothing at all", x.keeps(0), 0);
        x.district(2, 99);
        Due.be("two gaps", x.keeps(0), 0);
        Due.be("near of two gaps", x.near(1), 0);
        Due.custom(x, 0, 0, "void");
        Due.custom(x, 0, 0, "holds");
        x.district(0, 99);
        Due.line(x, 0, "void");
        Due.line(x, 0, "holds");
        Due.be("two clashes", x.keeps(0), 0);
        Due.be("near of two clashes", x.near(1), 0);
        Due.be("a way ends the clash", Due.way(x, 0, 1, "void"), 0);
        Due.be("a clash of the custom alone", x.keeps(0), 0);
        Due.custom(x, 0, 1, "void if what=0");
        Due.be("an end of both", x.keeps(0), 384 * 99);
    }

    /** Terms 5: "over DISTRICTS and SORTS the PEOPLE" - of no DISTRICT, and the most. */
    static void noDistrictAndTheMost() {
        OneCode x = new OneCode();
        Due.custom(x, 0, 0, "void");
        Due.line(x, 0, "void");
        Due.be("no district", x.keeps(0), 0);
        for (int d = 0; d < 8; d++) {
            x.district(0, 99);
        }
        Due.be("the most", x.keeps(0), 8 * 99 * 1536);
        Due.be("near of the most", x.near(1), 8 * 99 * 1536);
        x.carried(0, 0);
        Due.be("also where the code is in force", x.keeps(0), 8 * 99 * 1536);
    }

    /** Promise 36: "The WRITING that keeps most (what 0, as digits), how much (1). NONE" */
    static void nearNone() {
        Still.rich("near none", x -> {
            for (int what : new int[] {-1, LOW, 2, HIGH}) {
                Due.be("near(" + what + ")", x.near(what), NONE);
            }
        });
        OneCode x = new OneCode();
        Due.be("nothing", x.near(0), 0);
        Due.be("nothing kept", x.near(1), 0);
        Due.be("none", x.near(2), NONE);
    }

    /** Three WAYS in each of five SLOTS, of RANK 9: in each "void" where the digit is this one, else "to 3". */
    private static OneCode mostWays(int best) {
        OneCode x = customs();
        for (int slot = 0; slot <= 4; slot++) {
            for (int n = 0; n <= 2; n++) {
                Due.be("way", Due.way(x, slot, 9, n == best ? "void" : "to 3"), n);
            }
        }
        return x;
    }

    /** Terms 5: "WAYS (0 .. 2" in all "SLOTS 0 .. 4" - the most WRITINGS, of which one alone keeps anything: the first, the last, one between. */
    static void theMostWritings() {
        int[] all = {0, 0b0101010101, 0b1010101010};
        for (int best = 0; best <= 2; best++) {
            OneCode x = mostWays(best);
            Due.be("near of 243", x.near(0), all[best]);
            Due.be("how much it keeps", x.near(1), 768 * 10);
            Due.be("so it keeps", x.keeps(all[best]), 768 * 10);
            Due.be("no other", x.keeps(all[(best + 1) % 3]), 0);
            Due.be("nor one of another way in the last slot", x.keeps(all[best] ^ (best == 0 ? 256 : 512)), best == 1 ? -5 : 0);
        }
        OneCode x = customs();
        for (int slot = 0; slot <= 3; slot++) {
            for (int n = 0; n <= 2; n++) {
                Due.way(x, slot, slot, (n == 1 ? "void" : "to 3") + " if what=0 and age=" + slot);
            }
        }
        Due.way(x, 4, 0, "to 3 if what=2");
        Due.way(x, 4, 0, "holds if what=2 and goods=0");
        Due.way(x, 4, 0, "holds if what=2");
        Due.be("each slot for itself", x.near(0), 0b1001010101);
        Due.be("what they keep together", x.near(1), 384 * 10 + 384 * 7);
        Due.be("less in slot 4", x.keeps(0b0101010101), 384 * 10 + 96 * 7);
        Due.be("less in slot 0", x.keeps(0b1001010100), 288 * 10 + 384 * 7);
        Due.be("less in slot 3", x.keeps(0b1010010101), 288 * 10 + 384 * 7);
    }

    /** Terms 5: "The WRITING that keeps most; of several that with the lesser WAY in SLOT 0, then 1, and so on" */
    static void theFirstOfSeveral() {
        for (int slot = 0; slot <= 4; slot++) {
            OneCode x = customs();
            Due.way(x, slot, 0, "to 3");
            Due.way(x, slot, 0, "void");
            Due.way(x, slot, 0, "void if what<2");
            Due.be("the second of slot " + slot, x.near(0), 1 << 2 * slot);
            Due.be("it keeps", x.near(1), 768 * 10);
        }
        OneCode x = customs();
        for (int slot = 0; slot <= 4; slot++) {
            Due.way(x, slot, slot, "void if age=9");
            Due.way(x, slot, slot, "void if age=9");
        }
        Due.be("32 that keep nothing", x.near(0), 0);
        for (int low = 0; low < 4; low++) {
            OneCode y = customs();
            // Either of two SLOTS may say "void", but not both of them "to 3": the lesser WAY in the lower SLOT.
            Due.way(y, low, 1, "to 3");
            Due.way(y, low, 5, "void");
            Due.way(y, low + 1, 1, "to 3");
            Due.way(y, low + 1, 5, "void");
            Due.be("slots " + low + " and " + (low + 1), y.near(0), 1 << 2 * (low + 1));
            Due.be("the other keeps as much", y.keeps(1 << 2 * low), y.near(1));
        }
    }
}
