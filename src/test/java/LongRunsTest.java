import java.nio.charset.StandardCharsets;

/**
 * Runs of 512 calls, as long as the document allows: what can be full is filled by calls alone, and
 * the calls behind that are answered as the document says. Each call is counted, and each is checked.
 */
public final class LongRunsTest {
    private static final int NONE = -1, BAD = -2, STATE = -3, FULL = -4;
    private static final int CLASH = -2, GAP = -3;
    private static final int CALLS = 512;
    private static OneCode x;
    private static int calls;

    public static void main(String[] args) throws Exception {
        Each.run(LongRunsTest.class);
    }

    private static OneCode begun() {
        x = new OneCode();
        calls = 0;
        return x;
    }

    private static void be(String call, int got, int want) {
        calls++;
        Due.be("call " + calls + ", " + call, got, want);
    }

    /** Feeds four bytes a call; THE TAPE is to be empty. */
    private static void feed(String text) {
        byte[] bytes = text.getBytes(StandardCharsets.ISO_8859_1);
        for (int i = 0; i < bytes.length; i += 4) {
            int n = Math.min(4, bytes.length - i);
            int number = 0;
            for (int j = 0; j < n; j++) {
                number = number << 8 | bytes[i + j] & 255;
            }
            be("feed of " + text, x.feed(number, n), i + n);
        }
    }

    private static void rule(int number, String text, int body, int kind, int rank, int from, int witnesses) {
        feed(text);
        be("rule " + text, x.rule(body, kind, rank, from, witnesses), number);
    }

    private static void days(int first, int last) {
        for (int now = first; now < last; ) {
            int n = Math.min(400, last - now);
            now += n;
            be("days", x.days(n), now);
        }
    }

    /** The rest of the 512 calls asks again and again how many there are of each. */
    private static void end(int... counts) {
        Due.hold("no more calls than 512: " + calls, calls <= CALLS);
        for (int i = 0; calls < CALLS; i++) {
            int what = i % 13;
            be("count(" + what + ")", x.count(what), counts[what]);
        }
    }

    // ---- everything in one object

    /**
     * What it is: "An object is used for at most 512 calls after it has been made" - some 440 of them
     * fill all that can be full, and what comes then is FULL and changes nothing.
     */
    static void everythingFull() {
        begun();
        fillLands(8);
        fillTexts(80);
        days(0, 3999);
        fillTape(88);
        be("no more rules", x.rule(0, 1, 0, 0, 0), FULL);
        for (int slot = 0; slot < 5; slot++) {
            be("no more ways", x.way(slot, 0), FULL);
        }
        be("no more bytes", x.feed(0, 1), FULL);
        be("no more districts", x.district(0, 1), FULL);
        be("no more deeds", x.deed(0, 0), FULL);
        be("no more cases", x.heard(0, 0, 0), FULL);
        be("no more persons", x.person(0, -1, 0, 0, 0, 0), FULL);
        be("no more lines", x.line(0), FULL);
        be("no more sections", x.section(), FULL);
        be("no more days", x.days(1), BAD);
        be("none ahead of full", x.rule(6, 1, 0, 0, 0), NONE);
        be("bad ahead of full", x.rule(0, 1, 0, 4000, 0), BAD);
        be("a fault of the full tape", x.moves(79, 0), -10);
        be("the last rule", x.ruleOf(79, 4), 203);
        be("the last person", x.personOf(29, 1), 28);
        be("the last deed", x.deedEnd(59, 3999, 3999), 203);
        be("the last line", x.like(8, 6, 9), 0);
        end(80, 8, 100, 30, 30, 0, 3999, 7, 9, 90, 15, 0, 60);
    }

    private static void fillLands(int districts) {
        for (int i = 0; i < districts; i++) {
            be("district", x.district(0, 1 + i), i);
        }
        for (int i = 0; i < 60; i++) {
            be("deed", x.deed(i % 8, i), i);
        }
        for (int i = 0; i < 100; i++) {
            be("heard", x.heard(i % 8, i, 203), i);
        }
        for (int i = 0; i < 30; i++) {
            be("person", x.person(i % 8, i - 1, 0, 0, 0, 1), i);
        }
        for (int i = 0; i < 7; i++) {
            be("line", x.line(i), i);
        }
        for (int i = 0; i < 9; i++) {
            be("section", x.section(), i);
        }
    }

    private static void fillTexts(int rules) {
        for (int i = 0; i < rules; i++) {
            rule(i, "to " + i % 4, 0, 1, i / 79, 0, 0);
        }
        for (int i = 0; i < 15; i++) {
            feed("void");
            be("way", x.way(i % 5, 0), i / 5);
        }
    }

    private static void fillTape(int most) {
        for (int bytes = 4; bytes <= most; bytes += 4) {
            be("feed", x.feed(-1, 4), bytes);
        }
        be("feed", x.feed(-1, 2), most + 2);
    }

    // ---- RULES 0 .. 79

    /** Terms 1: "RULES 0 .. 79, as they come" - one a DAY, each KNOWN and in force from its DAY on. */
    static void rulesFull() {
        begun();
        for (int i = 0; i < 80; i++) {
            rule(i, "to " + i % 4, 0, 1, i / 8, i, 0);
            if (i < 79) {
                be("days", x.days(1), i + 1);
            }
        }
        feed("void");
        be("full", x.rule(0, 1, 0, 0, 0), FULL);
        be("a kind of none", x.rule(0, 6, 0, 0, 0), NONE);
        be("a kind of the code", x.rule(0, 4, 0, 0, 0), BAD);
        be("the tape stays", x.count(9), 4);
        for (int m = 0; m < 80; m += 3) {
            rankOfDay(m);
        }
        be("moves of the last", x.moves(79, 0), 0);
        be("moves of the first of its rank, whose others clash without it", x.moves(72, 0), 0);
        be("struck", x.strike(78, 0), 1);
        be("the last but one gives it no more", x.why(0, 0, 79, 79, 7), NONE);
        be("the last is the seventh", x.why(0, 0, 79, 79, 6), 79);
        be("as known the day ahead", x.why(0, 0, 79, 78, 6), 78);
        be("the last's number in its act", x.act(79, 2, 1), (1 + 9) * 2 - 9 ^ 1 + 79 + 9);
        int[] bodies = {12, 20, 11, 10, 10, NONE};
        for (int i = 0; i < bodies.length; i++) {
            be("the trace of it", x.trace(i), bodies[i]);
        }
        be("the last taken for one under it all", x.taken(79, 0), 1);
        be("none behind the last", x.taken(80, 0), -11);
        be("none behind the last falls", x.fall(80), NONE);
        be("the last has no witnesses", x.fall(79), STATE);
        be("the last fits", x.fits(79, 1535), 1);
        be("none behind it fits", x.fits(80, 0), NONE);
        be("its day", x.ruleOf(79, 3), 79);
        end(80, 0, 0, 0, 0, 0, 79, 0, 0, 4, 0, 5, 0);
    }

    /** RULES 0 .. m are in force and KNOWN on DAY m; those of the greatest RANK are m / 8 * 8 .. m. */
    private static void rankOfDay(int m) {
        int first = m / 8 * 8;
        int want = m == first ? 200 + first % 4 : CLASH;
        be("answer as of " + m, x.answer(0, 5, m, 79), want);
        be("answer known on " + m, x.answer(0, 5, 79, m), want);
        be("the first", x.why(0, 5, m, 79, 0), first);
        be("the last", x.why(0, 5, 79, m, m - first), m);
        be("no more", x.why(0, 5, m, m, m - first + 1), NONE);
    }

    /**
     * Terms 1: "A SWORN one has WITNESSES (1 .. 20), some of whom FELL: it counts while 2 or more stand."
     * - as many RULES, each with as many as can be, of whom one FELL each DAY.
     */
    static void witnessesFall() {
        begun();
        for (int i = 0; i < 10; i++) {
            rule(i, "to 1", 0, 2, i, 0, 20);
        }
        for (int day = 1; day <= 20; day++) {
            be("days", x.days(1), day);
            for (int i = 0; i < 10; i++) {
                be("fall", x.fall(i), 20 - day);
            }
        }
        for (int i = 0; i < 10; i++) {
            be("none stand", x.fall(i), STATE);
            be("stand", x.ruleOf(i, 6), 0);
        }
        for (int k = 0; k <= 20; k++) {
            be("known on " + k, x.answer(0, 0, 0, k), k <= 18 ? 201 : GAP);
            be("the first that gives it", x.why(0, 0, 0, k, 0), k <= 18 ? 9 : NONE);
            be("all have a rank of their own", x.why(0, 0, 0, k, 1), NONE);
        }
        end(10, 0, 0, 0, 0, 0, 20, 0, 0, 0, 0, 0, 0);
    }

    // ---- DISTRICTS 0 .. 7

    /**
     * Terms 2: "DISTRICTS 0 .. 7, as they come: a CUSTOM, PEOPLE (1 .. 99)"
     * Promise 18: "A COURT between two DISTRICTS for a SORT of DAY f, judged and KNOWN NOW." - between
     * each two of them, by each RULE of COURTS.
     */
    static void districtsFull() {
        begun();
        for (int i = 0; i < 8; i++) {
            be("district", x.district(i % 5, 99), i);
        }
        be("full", x.district(0, 1), FULL);
        be("none ahead of full", x.district(5, 1), NONE);
        be("bad ahead of full", x.district(4, 0), BAD);
        rule(0, "to 0", 0, 1, 0, 0, 0);
        rule(1, "to 1", 1, 1, 0, 0, 0);
        rule(2, "to 2", 2, 1, 0, 0, 0);
        rule(3, "to 3", 3, 1, 0, 0, 0);
        rule(4, "void", 4, 1, 0, 0, 0);
        for (int r = 0; r < 3; r++) {
            be("courts", x.courts(r), r == 0 ? 2 : r - 1);
            for (int i = 0; i < 64; i++) {
                int one = customEnd(i / 8);
                int other = customEnd(i % 8);
                int want = one == other || r == 0 ? one : r == 1 ? other : -4;
                be("court of " + i / 8 + " and " + i % 8, x.court(i / 8, i % 8, i, 0), want);
            }
        }
        be("no court of a ninth", x.court(7, 8, 0, 0), -5);
        for (int i = 0; i < 8; i++) {
            be("carried", x.carried(i, i), 1);
            be("carried told", x.carried(i, 9), STATE);
        }
        rule(5, "holds", 5, 4, 0, 0, 0);
        for (int day = 0; day < 8; day++) {
            for (int i = 0; i < 8; i++) {
                be("law of " + i + " on " + day, x.law(i, 0, day, day, 0), i <= day ? 1 : customEnd(i));
            }
        }
        be("days", x.days(3), 3);
        feed("void");
        be("people of districts 0 .. 3", x.moves(5, 1), 1536 * 99 * 4);
        be("people of district 7, the only other one under custom 2", x.moves(2, 1), 1536 * 99);
        be("people of district 6, under custom 1", x.moves(1, 1), 1536 * 99);
        be("no people under custom 3", x.moves(3, 1), 0);
        end(6, 8, 0, 0, 0, 0, 3, 0, 0, 4, 0, 0, 0);
    }

    private static int customEnd(int district) {
        return district % 5 == 4 ? 0 : 200 + district % 5;
    }

    /** Terms 5: "The ROW of all DISTRICTS that waits least: the sum of waiting CASES times when each is done" */
    static void rowOfAll() {
        begun();
        for (int i = 0; i < 8; i++) {
            be("district", x.district(0, 1), i);
        }
        for (int turn = 0; turn < 12; turn++) {
            int months = turn + 1;
            for (int i = 0; i < 8; i++) {
                be("months", x.teach(i, 0, months), turn == 0 ? 1 : turn);
                be("waiting", x.teach(i, 1, 8 * turn + i), turn == 0 ? 0 : 8 * (turn - 1) + i);
            }
            int sum = 0;
            for (int i = 0; i < 8; i++) {
                sum += (8 * turn + i) * months * (8 - i);
                be("the most waiting first, " + i, x.taught(i), 7 - i);
            }
            be("waits", x.waits(), sum);
        }
        for (int i = 0; i < 7; i++) {
            be("each behind the lesser", x.teach(i + 1, 2, i), -1);
        }
        be("they would go round", x.teach(0, 2, 7), BAD);
        int sum = 0;
        for (int i = 0; i < 8; i++) {
            sum += (88 + i) * 12 * (i + 1);
            be("each at its number", x.taught(i), i);
        }
        be("waits in that row", x.waits(), sum);
        be("no ninth", x.taught(8), NONE);
        be("the last behind none", x.teach(7, 2, -1), 6);
        be("it comes first", x.taught(0), 7);
        end(0, 8, 0, 0, 0, 0, 0, 0, 0, 0, 0, 0, 0);
    }

    // ---- DEEDS 0 .. 59

    /**
     * Terms 2: "DEEDS 0 .. 59, as they come"
     * Promise 16: "LOST DEEDS of a DISTRICT (-1: of all): how many (what 0), the first (1; -1)."
     */
    static void deedsFull() {
        begun();
        for (int i = 0; i < 4; i++) {
            be("district", x.district(0, 1), i);
        }
        rule(0, "to 1", 0, 1, 0, 0, 0);
        for (int i = 0; i < 60; i++) {
            be("deed", x.deed(i % 4, i), i);
            if (i % 2 == 1) {
                be("days", x.days(1), i / 2 + 1);
            }
        }
        be("full", x.deed(3, 60), FULL);
        be("none ahead of full", x.deed(4, 60), NONE);
        be("bad ahead of full", x.deed(3, 1536), BAD);
        be("none lost", x.lost(-1, 0), 0);
        be("no first", x.lost(-1, 1), -1);
        // What is told now was not KNOWN on the DAY of any of them.
        be("struck from day 10 on", x.strike(0, 10), 1);
        be("those of day 10 and later", x.lost(-1, 0), 40);
        be("the first of these", x.lost(-1, 1), 20);
        for (int i = 0; i < 4; i++) {
            be("of district " + i, x.lost(i, 0), 10);
            be("the first of district " + i, x.lost(i, 1), 20 + i);
        }
        for (int i = 0; i < 60; i++) {
            be("as known on its day", x.deedEnd(i, i / 2, i / 2), 201);
            be("as known now", x.deedEnd(i, 30, 30), i < 20 ? 201 : GAP);
            be("judged ahead of it", x.deedEnd(i, i / 2 - 1, 30), -5);
        }
        // The CODE comes now to district 0, and saves of its DEEDS those of house 0, as SORTS 0 .. 31 are:
        // of those of day 10 and later 20, 24 and 28.
        be("carried", x.carried(0, 30), 1);
        rule(1, "to 1 if house=0", 5, 5, 0, 0, 0);
        be("saved in district 0", x.deedEnd(24, 30, 30), 201);
        be("still lost in district 1", x.deedEnd(25, 30, 30), GAP);
        be("lost in district 0", x.lost(0, 0), 7);
        be("the first lost in district 0", x.lost(0, 1), 32);
        be("lost in all", x.lost(-1, 0), 37);
        be("the first lost in all", x.lost(-1, 1), 21);
        be("no deed behind the last", x.deedEnd(60, 30, 30), -5);
        end(2, 4, 0, 0, 0, 0, 30, 0, 0, 0, 0, 0, 60);
    }

    // ---- CASES 0 .. 99

    /** Terms 3: "CASES 0 .. 99, as they come: of a DISTRICT, a SORT, the END that was given." */
    static void casesFull() {
        begun();
        be("district", x.district(0, 2), 0);
        be("district", x.district(1, 3), 1);
        // All of oath 1 hold, all others are void: the FORMS of the oath alone are LEFT.
        for (int i = 0; i < 98; i++) {
            int sort = i * 37 % 1536;
            be("heard", x.heard(i % 2, sort, sort / 4 % 2), i);
        }
        for (int i = 0; i < 2; i++) {
            be("left", x.left(i), 4);
            be("oath<1", x.form(i, 0), 49);
            be("oath=0", x.form(i, 1), 52);
            be("oath=1", x.form(i, 2), 53);
            be("oath>0", x.form(i, 3), 56);
            be("no more", x.form(i, 4), NONE);
            be("half of them", x.parts(i, 1), 2);
            be("the first sort", x.parts(i, 0), 0);
            be("no quarrel", x.quarrel(i, 0), NONE);
        }
        // The last two quarrel with the first two, each in its district.
        be("the last but one", x.heard(0, 0, 1), 98);
        be("the last", x.heard(1, 37, 0), 99);
        be("full", x.heard(0, 0, 1), FULL);
        be("bad ahead of full", x.heard(0, 0, 204), BAD);
        be("none ahead of full", x.heard(2, 0, 0), NONE);
        be("sheet", x.sheet(0, 2, 40), 1);
        be("read", x.read(0, 0, 2, 33), FULL);
        be("cell", x.cell(0, 39, 2), 1);
        be("read what is bad", x.read(0, 0, 2, 33), BAD);
        be("read what is not there", x.read(0, 0, 2, 34), -12);
        for (int i = 0; i < 2; i++) {
            be("the first in quarrel", x.quarrel(i, 0), i);
            be("the second", x.quarrel(i, 1), 98 + i);
            be("nothing is left", x.left(i), 0);
            be("no form", x.form(i, 0), NONE);
            be("no parting", x.parts(i, 0), NONE);
        }
        movesOfAll("to 2");
        end(2, 2, 100, 0, 0, 0, 0, 0, 0, 4, 0, 0, 0);
    }

    private static void movesOfAll(String text) {
        rule(0, "void", 0, 1, 0, 0, 0);
        rule(1, "void", 1, 1, 0, 0, 0);
        feed(text);
        for (int rule = 0; rule < 2; rule++) {
            be("sorts", x.moves(rule, 0), 1536);
            be("people", x.moves(rule, 1), 1536 * (2 + rule));
            be("cases", x.moves(rule, 2), 50);
        }
    }

    // ---- PERSONS 0 .. 29

    /**
     * Terms 4: "PERSONS 0 .. 29, as they come: a DISTRICT, a parent (or none), age, house, oath, COINS (0 .. 9999)."
     * - each the child of the one ahead; each DIES, and what it had comes to the next, a tenth to the CHEST.
     */
    static void personsFull() {
        begun();
        be("district", x.district(0, 1), 0);
        be("district", x.district(0, 1), 1);
        rule(0, "owed 10", 0, 1, 0, 0, 0);
        for (int i = 0; i < 30; i++) {
            be("person", x.person(i % 2, i - 1, i % 4, i % 3, i / 2 % 2, 9999), i);
        }
        be("full", x.person(0, -1, 0, 0, 0, 0), FULL);
        be("none ahead of full", x.person(0, 30, 0, 0, 0, 0), NONE);
        be("bad ahead of full", x.person(0, 29, 0, 0, 0, 10000), BAD);
        int[] chests = new int[2];
        int coins = 9999;
        for (int i = 0; i < 30; i++) {
            int kids = i < 29 ? 1 : 0;
            be("coins", x.personOf(i, 2), coins);
            be("children", x.personOf(i, 5), kids);
            be("dies", x.die(i), 110);
            be("its sort", x.personOf(i, 4), Due.sort(2, i % 4, i % 3, kids, i / 2 % 2, 3));
            be("has nothing", x.personOf(i, 2), 0);
            be("is dead", x.personOf(i, 3), 1);
            int owed = coins * 10 / 100;
            chests[i % 2] += i < 29 ? owed : coins;
            coins = i < 29 ? coins - owed + 9999 : 0;
            be("chest 0", x.chest(0), chests[0]);
            be("chest 1", x.chest(1), chests[1]);
            be("nothing is lost", x.chest(-1), 30 * 9999);
            be("that live", x.count(4), 29 - i);
            be("dies once", x.die(i), STATE);
            be("goes no more", x.goes(i, 0), STATE);
        }
        be("full, though all are dead", x.person(0, -1, 0, 0, 0, 0), FULL);
        Due.be("all went to chests", chests[0] + chests[1], 30 * 9999);
        end(1, 2, 0, 30, 0, 0, 0, 0, 0, 0, 0, 0, 0);
    }

    /**
     * Terms 4: "CLASH or GAP: QUARRELLED: the COINS stay, till it is SETTLED (as on the NOW of then, its SORT as it was)."
     * - all but the first, its children, die without LAW and are SETTLED one by one.
     */
    static void allQuarrelled() {
        begun();
        be("district", x.district(3, 1), 0);
        be("person", x.person(0, -1, 0, 0, 0, 0), 0);
        for (int i = 1; i < 30; i++) {
            be("person", x.person(0, 0, i % 4, 0, 0, i), i);
        }
        for (int i = 1; i < 30; i++) {
            be("a gap", x.die(i), GAP);
            be("a gap still", x.settle(i), GAP);
            be("the coins stay", x.personOf(i, 2), i);
            be("quarrelled over", x.count(5), i);
            be("living children of the first", x.personOf(0, 5), 29 - i);
        }
        be("nothing to settle of the living", x.settle(0), STATE);
        rule(0, "to 2 if age=1 or age=2", 3, 1, 0, 0, 0);
        int coins = 0;
        int left = 29;
        for (int i = 1; i < 30; i++) {
            boolean lawful = i % 4 == 1 || i % 4 == 2;
            coins += lawful ? i : 0;
            left -= lawful ? 1 : 0;
            be("settled by its age", x.settle(i), lawful ? 202 : GAP);
            be("its parent has", x.personOf(0, 2), coins);
            be("it is", x.personOf(i, 3), lawful ? 1 : 2);
            be("quarrelled over", x.count(5), left);
            be("nothing is lost", x.chest(-1), 29 * 30 / 2);
        }
        be("settled once", x.settle(1), STATE);
        be("that is no person", x.settle(30), NONE);
        be("the parent dies", x.die(0), GAP);
        rule(1, "void", 3, 1, 9, 0, 0);
        for (int i = 0; i < 30; i++) {
            boolean lawful = i % 4 == 1 || i % 4 == 2;
            be("settled or was", x.settle(i), lawful ? STATE : 0);
        }
        be("all in the chest", x.chest(0), 29 * 30 / 2);
        be("all in all", x.chest(-1), 29 * 30 / 2);
        end(2, 1, 0, 30, 0, 0, 0, 0, 0, 0, 0, 0, 0);
    }

    // ---- WAYS

    /**
     * Terms 5: "SLOTS 0 .. 4 have WAYS (0 .. 2, as they come; RULES' texts), each of a RANK."
     * Terms 5: "The WRITING that keeps most; of several that with the lesser WAY in SLOT 0, then 1, and so on."
     * - what each of the 243 WRITINGS keeps, and which of them keeps most.
     */
    static void waysFull() {
        begun();
        be("district", x.district(0, 3), 0);
        rule(0, "to 2 if age=0", 0, 1, 0, 0, 0);
        rule(1, "to 0 if age=1", 0, 1, 0, 0, 0);
        rule(2, "to 1 if age=2", 0, 1, 0, 0, 0);
        rule(3, "to 2 if age=3", 0, 1, 0, 0, 0);
        for (int slot = 0; slot < 5; slot++) {
            for (int i = 0; i < 3; i++) {
                feed("to " + i + (slot < 4 ? " if age=" + slot : " if house=0"));
                be("way", x.way(slot, slot < 4 ? 0 : 1), i);
            }
            feed("void");
            be("the slot is full", x.way(slot, 0), FULL);
            be("bad ahead of full", x.way(slot, 10), BAD);
            be("then no rule comes of it", x.rule(0, 1, 0, 0, 1), BAD);
            be("the tape is emptied by a fault", x.feed('x', 1), 5);
            be("a fault", x.rule(0, 1, 0, 0, 0), -14);
        }
        int[] dueEnds = {2, 0, 1, 2};
        int most = 0;
        int best = 0;
        for (int n = 0; n < 243; n++) {
            int[] way = {n / 81, n / 27 % 3, n / 9 % 3, n / 3 % 3, n % 3};
            int keeps = 0;
            int writing = way[4] << 8;
            for (int age = 0; age < 4; age++) {
                // Of an age 384 SORTS, of them 128 of house 0, which go by SLOT 4.
                keeps += way[age] == dueEnds[age] ? 3 * 256 : 0;
                keeps += way[4] == dueEnds[age] ? 3 * 128 : 0;
                writing += way[age] << 2 * age;
            }
            be("keeps(" + writing + ")", x.keeps(writing), keeps);
            if (keeps > most) {
                most = keeps;
                best = writing;
            }
        }
        be("the best", x.near(0), best);
        be("what it keeps", x.near(1), most);
        be("a fourth way of a slot", x.keeps(3), -5);
        end(4, 1, 0, 0, 0, 0, 0, 0, 0, 0, 15, 0, 0);
    }

    // ---- LINES on the TABLE, SECTIONS

    /**
     * Terms 5: "SECTIONS 0 .. 8, as they come, each with a liking (-9 .. 9) for LINES 0 .. 6 on the TABLE (as they come"
     * Promise 40: "How many SECTIONS say yes, if a set of LINES is yielded." - each set.
     */
    static void tableFull() {
        begun();
        for (int i = 0; i < 7; i++) {
            be("line", x.line(i + 1), i);
        }
        for (int i = 0; i < 9; i++) {
            be("section", x.section(), i);
        }
        be("no more lines", x.line(0), FULL);
        be("bad ahead of full", x.line(100), BAD);
        be("no more sections", x.section(), FULL);
        int[][] likings = new int[9][7];
        for (int s = 0; s < 9; s++) {
            for (int line = 0; line < 7; line++) {
                likings[s][line] = (s * 5 + line * 11) % 19 - 9;
                be("like", x.like(s, line, likings[s][line]), 0);
            }
        }
        int least = -1;
        for (int set = 0; set < 128; set++) {
            int yes = saidBy(likings, set);
            be("yes(" + set + ")", x.yes(set), yes);
            boolean less = least < 0 || cost(set) < cost(least)
                || cost(set) == cost(least) && Integer.bitCount(set) < Integer.bitCount(least);
            least = yes >= 5 && less ? set : least;
        }
        be("the least", x.least(0), least);
        be("its cost", x.least(1), cost(least));
        // Now each hates every line: only if all are yielded it is carried.
        for (int s = 0; s < 9; s++) {
            for (int line = 0; line < 7; line++) {
                be("like again", x.like(s, line, -9), likings[s][line]);
            }
        }
        for (int set = 0; set < 128; set++) {
            be("yes(" + set + ")", x.yes(set), set == 127 ? 9 : 0);
        }
        be("all yielded", x.least(0), 127);
        be("for all costs", x.least(1), 28);
        be("a bit of none", x.yes(128), NONE);
        be("no eighth line", x.like(0, 7, 0), -100);
        be("no tenth section", x.like(9, 0, 0), -100);
        end(0, 0, 0, 0, 0, 0, 0, 7, 9, 0, 0, 0, 0);
    }

    private static int saidBy(int[][] likings, int yielded) {
        int yes = 0;
        for (int[] row : likings) {
            int sum = 0;
            for (int line = 0; line < 7; line++) {
                sum += (yielded >> line & 1) == 0 ? row[line] : 0;
            }
            yes += sum >= 0 ? 1 : 0;
        }
        return yes;
    }

    private static int cost(int set) {
        int sum = 0;
        for (int line = 0; line < 7; line++) {
            sum += (set >> line & 1) * (line + 1);
        }
        return sum;
    }

    // ---- THE TAPE

    /**
     * Terms 1: "A RULE is read from THE TAPE (bytes, 90 at most)" - filled to its last byte again and
     * again; what does not go onto it is FULL, and it stays as it was.
     */
    static void tapeFull() {
        begun();
        String test = "not goods>3";
        String longest = "owed 99 unless " + test + " and " + test + " and " + test + " and " + test + " or " + "not goods<9 ";
        Due.be("bytes", longest.length(), 90);
        for (int turn = 0; turn < 15; turn++) {
            // The last byte, a blank behind the fifth test, is the FAULT; a WAY and a RULE without it are sound.
            feed(longest);
            be("a byte more", x.feed(32, 1), FULL);
            be("four more", x.feed(32, 4), FULL);
            be("none more", x.feed(32, 0), 90);
            be("more than a call takes", x.feed(32, 5), BAD);
            be("a fault at the last byte", turn % 2 == 0 ? x.rule(0, 1, 0, 0, 0) : x.way(0, 0), -10 - 89);
            be("empty", x.count(9), 0);
        }
        feed(longest.substring(0, 89));
        be("the same without it", x.rule(0, 1, 0, 0, 0), 0);
        be("it never fits, as all hold", x.fits(0, 1535), 0);
        be("its tests", x.ruleOf(0, 5), 5);
        end(1, 0, 0, 0, 0, 0, 0, 0, 0, 0, 0, 0, 0);
    }

    // ---- NOW at 3999

    /**
     * Terms 1: "NOW is a DAY, 0 at first, 3999 at most."
     * Promise 2: "BAD: also beyond 3999." - by single DAYS at last; then all goes on on the last DAY.
     */
    static void nowAtLast() {
        begun();
        be("district", x.district(0, 1), 0);
        be("district", x.district(0, 1), 1);
        be("carried on the last day", x.carried(0, 3999), 1);
        rule(0, "to 1", 0, 1, 0, 0, 0);
        for (int i = 1; i <= 9; i++) {
            be("days", x.days(400), 400 * i);
        }
        be("beyond", x.days(400), BAD);
        be("near the last", x.days(199), 3799);
        for (int day = 3800; day < 4000; day++) {
            be("beyond", x.days(4000 - day + 1), BAD);
            be("a day", x.days(1), day);
        }
        be("no day more", x.days(1), BAD);
        be("none at all", x.days(0), BAD);
        be("carried on a day gone by", x.carried(1, 3998), BAD);
        be("carried now", x.carried(1, 3999), 1);
        rule(1, "void", 0, 1, 1, 3999, 0);
        rule(2, "to 3", 5, 4, 0, 3999, 0);
        be("known now", x.answer(0, 0, 3999, 3999), 0);
        be("not known the day ahead", x.answer(0, 0, 3999, 3998), 201);
        be("not in force the day ahead", x.answer(0, 0, 3998, 3999), 201);
        be("of later days", x.answer(0, 0, 100000, 100000), 0);
        be("the code", x.law(0, 0, 3999, 3999, 3999), 203);
        be("the custom, as no saved one is", x.law(0, 0, 3998, 3999, 3999), 201);
        be("a deed", x.deed(0, 0), 0);
        be("its end", x.deedEnd(0, 3999, 3999), 203);
        be("its end later", x.deedEnd(0, Integer.MAX_VALUE, Integer.MAX_VALUE), 203);
        be("a person", x.person(1, -1, 0, 0, 0, 5), 0);
        be("struck from now", x.strike(2, 3999), 1);
        be("the deed is not lost, as its day is now", x.lost(-1, 0), 0);
        be("dies", x.die(0), GAP);
        be("settled", x.settle(0), GAP);
        be("court", x.court(0, 1, 0, 3999), GAP);
        be("court of the day ahead", x.court(0, 1, 0, 3998), 201);
        be("court of a day to come", x.court(0, 1, 0, 4000), -5);
        end(3, 2, 0, 1, 0, 1, 3999, 0, 0, 0, 0, 0, 1);
    }

    // ---- what runs all calls long

    /** Promise 48: "11 bodies that ran in the latest act() (all, kept or not)" - however many acts were ahead. */
    static void actsAllAlong() {
        begun();
        rule(0, "void", 5, 5, 9, 0, 0);
        rule(1, "void", 0, 1, 1, 0, 0);
        for (int i = 0; i < 160; i++) {
            boolean saves = i % 2 == 0;
            // SAVED saves: holds(..) there is (.. + 9) ^ 0, hangs(i) is 2 * (i + 9) - 9.
            int want = saves ? (2 * (i + 9) - 9 ^ i + 9) + 4 : i + 1;
            be("act", saves ? x.act(0, 2, i) : x.act(1, 0, i), want);
            be("bodies", x.count(11), saves ? 9 : 1);
            be("the last of them", x.trace(saves ? 8 : 0), 10);
        }
        be("no rule", x.act(2, 0, 5), 0);
        end(2, 0, 0, 0, 0, 0, 0, 0, 0, 0, 0, 0, 0);
    }

    /** Promise 51: "n items of a SHEET from i on come to another SHEET (or the same) from j on, as they all were before: n." */
    static void sheetsAllAlong() {
        begun();
        be("district", x.district(0, 1), 0);
        for (int sheet = 0; sheet < 3; sheet++) {
            be("sheet", x.sheet(sheet, 2, 40), 1);
        }
        for (int i = 0; i < 40; i++) {
            be("cell", x.cell(0, i, i % 7 == 6 ? 100 + i : i % 2), 1);
        }
        // Round through all three: each time all come one place on.
        for (int turn = 0; turn < 150; turn++) {
            int from = turn % 3;
            be("copy", x.copy(from, 0, (from + 1) % 3, 0, 40), 40);
            be("copy within", x.copy((from + 1) % 3, 0, (from + 1) % 3, 0, 40), 40);
        }
        be("copy up", x.copy(0, 0, 0, 5, 35), 35);
        be("copy back", x.copy(0, 5, 0, 0, 35), 35);
        for (int i = 0; i + 6 < 34; i++) {
            boolean sound = i % 7 == 0;
            be("read at " + i, x.read(0, 0, 2, i), sound ? i / 7 : BAD);
        }
        for (int i = 0; i < 4; i++) {
            int sort = i % 2 == 0 ? Due.sort(0, 1, 0, 1, 0, 1) : Due.sort(1, 0, 1, 0, 1, 0);
            be("heard otherwise", x.heard(0, sort, 203), 4 + i);
        }
        be("the first of the sort", x.quarrel(0, 0), 0);
        be("the second, of another end", x.quarrel(0, 1), 2);
        end(0, 1, 8, 0, 0, 0, 0, 0, 0, 0, 0, 0, 0);
    }
}
