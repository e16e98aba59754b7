import java.util.ArrayList;
import java.util.List;
import java.util.function.Consumer;
import java.util.function.Supplier;

/**
 * Shows that refused calls changed nothing: an object that heard them answers all later calls as
 * its twin, made alike, that never heard them.
 *
 * <p>No object is asked more than the document's 512 calls: each part of the QUESTIONS gets twins
 * of its own, so what makes them may take 250 calls, and the refused ones 60.
 */
final class Still {
    private static final int MOST_ASKED = 200;
    private static final List<List<Question>> PARTS = new ArrayList<>();

    private interface Asked {
        int of(OneCode x);
    }

    private record Question(String call, Asked asked) {
    }

    static {
        part(Still::askCounts);
        part(Still::askRules);
        part(Still::askAnswers);
        part(Still::askLaw);
        part(Still::askLands);
        part(Still::askCases);
        part(Still::askPersons);
        part(Still::askNear);
        // These change what they ask of, in both twins alike.
        part(Still::askTable);
        part(Still::askTape);
        part(Still::askSheets);
        part(Still::askItems);
        part(Still::askLives);
        part(Still::askOneMore);
        part(Still::askLater);
    }

    private Still() {
    }

    /** In a rich world the calls change nothing; they check their own answers. */
    static void rich(String what, Consumer<OneCode> refused) {
        after(what, World::rich, refused);
    }

    static void after(String what, Supplier<OneCode> make, Consumer<OneCode> refused) {
        for (List<Question> part : PARTS) {
            OneCode x = make.get();
            OneCode twin = make.get();
            refused.accept(x);
            for (Question q : part) {
                Due.be(what + " changed nothing: later " + q.call, q.asked.of(x), q.asked.of(twin));
            }
        }
    }

    private static void part(Runnable asks) {
        PARTS.add(new ArrayList<>());
        asks.run();
        Due.hold("a part of the questions is short", PARTS.get(PARTS.size() - 1).size() <= MOST_ASKED);
    }

    private static void ask(String call, Asked asked) {
        PARTS.get(PARTS.size() - 1).add(new Question(call, asked));
    }

    private static void askCounts() {
        for (int i = 0; i <= 12; i++) {
            int what = i;
            ask("count(" + what + ")", x -> x.count(what));
        }
        for (int i = 0; i <= 20; i++) {
            int n = i;
            ask("trace(" + n + ")", x -> x.trace(n));
        }
    }

    private static void askRules() {
        int[] rules = {0, 1, 2, 3, 4, 5, 6, 7, 8, 79, 80};
        for (int r : rules) {
            for (int w = 0; w <= 7; w++) {
                int what = w;
                ask("ruleOf(" + r + ", " + what + ")", x -> x.ruleOf(r, what));
            }
            ask("fits(" + r + ", 0)", x -> x.fits(r, 0));
            ask("fits(" + r + ", 1535)", x -> x.fits(r, 1535));
        }
    }

    private static void askAnswers() {
        int[] sorts = {0, 1535, World.LAID};
        int[][] days = {{0, 0}, {9, 20}, {10, 20}, {10, 19}, {20, 20}, {29, 20}, {30, 20}, {5000, 5000}};
        for (int b = 0; b <= 5; b++) {
            int body = b;
            for (int sort : sorts) {
                for (int[] d : days) {
                    ask("answer(" + body + ", " + sort + ", " + d[0] + ", " + d[1] + ")",
                        x -> x.answer(body, sort, d[0], d[1]));
                }
                ask("why(" + body + ", " + sort + ", 20, 20, 0)", x -> x.why(body, sort, 20, 20, 0));
            }
        }
    }

    private static void askLaw() {
        int[] sorts = {0, Due.sort(2, 1, 1, 0, 0, 0), World.LAID};
        int[][] days = {{0, 0}, {19, 19}, {20, 20}, {24, 24}, {24, 25}, {25, 25}, {0, 4100}, {4000, 4100}};
        for (int k = 0; k <= 3; k++) {
            int d = k;
            for (int sort : sorts) {
                for (int[] day : days) {
                    ask("law(" + d + ", " + sort + ", " + day[0] + ", " + day[1] + ", 20)",
                        x -> x.law(d, sort, day[0], day[1], 20));
                }
            }
        }
    }

    private static void askLands() {
        for (int k = 0; k <= 8; k++) {
            int d = k;
            ask("law(" + d + ", 0, 0, 0, 0)", x -> x.law(d, 0, 0, 0, 0));
            ask("lost(" + d + ", 0)", x -> x.lost(d, 0));
            ask("lost(" + d + ", 1)", x -> x.lost(d, 1));
            ask("court(" + d + ", 0, 0, 20)", x -> x.court(d, 0, 0, 20));
            ask("court(" + d + ", 1, 1535, 20)", x -> x.court(d, 1, 1535, 20));
        }
        int[] deeds = {0, 1, 2, 3, 59, 60};
        for (int deed : deeds) {
            ask("deedEnd(" + deed + ", 20, 20)", x -> x.deedEnd(deed, 20, 20));
            ask("deedEnd(" + deed + ", 40, 20)", x -> x.deedEnd(deed, 40, 20));
            ask("deedEnd(" + deed + ", 19, 20)", x -> x.deedEnd(deed, 19, 20));
        }
        for (int w = 0; w <= 2; w++) {
            int what = w;
            ask("unlike(0, 5, " + what + ")", x -> x.unlike(0, 5, what));
            ask("unlike(0, 1, " + what + ")", x -> x.unlike(0, 1, what));
            ask("wrong(1, 0, " + what + ")", x -> x.wrong(1, 0, what));
            ask("wrong(0, 1, " + what + ")", x -> x.wrong(0, 1, what));
        }
    }

    private static void askCases() {
        int[] districts = {0, 1, 2, 3, 7};
        for (int d : districts) {
            ask("left(" + d + ")", x -> x.left(d));
            for (int n = 0; n <= 8; n++) {
                int i = n;
                ask("form(" + d + ", " + i + ")", x -> x.form(d, i));
            }
            for (int w = 0; w <= 1; w++) {
                int what = w;
                ask("parts(" + d + ", " + what + ")", x -> x.parts(d, what));
                ask("quarrel(" + d + ", " + what + ")", x -> x.quarrel(d, what));
            }
        }
        for (int w = 0; w <= 2; w++) {
            int what = w;
            ask("moves(0, " + what + ")", x -> x.moves(0, what));
            ask("moves(7, " + what + ")", x -> x.moves(7, what));
        }
    }

    private static void askPersons() {
        int[] persons = {0, 1, 2, 3, 4, 5, 6, 7, 29, 30};
        for (int p : persons) {
            for (int w = 0; w <= 5; w++) {
                int what = w;
                ask("personOf(" + p + ", " + what + ")", x -> x.personOf(p, what));
            }
        }
        for (int k = -1; k <= 8; k++) {
            int d = k;
            ask("chest(" + d + ")", x -> x.chest(d));
        }
    }

    private static void askNear() {
        int[] writings = {0, 1, 2, 3, 4, 16, 64, 65, 66, 68, 128, 256, 1023, 1024};
        for (int w : writings) {
            ask("keeps(" + w + ")", x -> x.keeps(w));
        }
        ask("near(0)", x -> x.near(0));
        ask("near(1)", x -> x.near(1));
    }

    private static void askTable() {
        for (int s = 0; s <= 8; s++) {
            int set = s;
            ask("yes(" + set + ")", x -> x.yes(set));
            ask("taught(" + set + ")", x -> x.taught(set));
        }
        ask("yes(127)", x -> x.yes(127));
        ask("least(0)", x -> x.least(0));
        ask("least(1)", x -> x.least(1));
        ask("waits()", x -> x.waits());
        ask("courts(2)", x -> x.courts(2));
        for (int s = 0; s <= 8; s++) {
            int section = s;
            for (int l = 0; l <= 3; l++) {
                int line = l;
                ask("like(" + section + ", " + line + ", 0)", x -> x.like(section, line, 0));
            }
            ask("like(" + section + ", 6, 0)", x -> x.like(section, 6, 0));
        }
        for (int k = 0; k <= 8; k++) {
            int d = k;
            ask("teach(" + d + ", 2, -1)", x -> x.teach(d, 2, -1));
            ask("teach(" + d + ", 0, 1)", x -> x.teach(d, 0, 1));
            ask("teach(" + d + ", 1, 0)", x -> x.teach(d, 1, 0));
            ask("carried(" + d + ", 3999)", x -> x.carried(d, 3999));
        }
    }

    /** What stands on THE TAPE, and what a RULE made of it says. */
    private static void askTape() {
        ask("feed(0, 0)", x -> x.feed(0, 0));
        ask("feed(\"=2\")", x -> x.feed('=' << 8 | '2', 2));
        ask("moves(3, 0)", x -> x.moves(3, 0));
        ask("rule(2, 1, 9, 0, 0)", x -> x.rule(2, 1, 9, 0, 0));
        ask("answer(2, 0, 0, 20)", x -> x.answer(2, 0, 0, 20));
        ask("answer(2, 200, 0, 20)", x -> x.answer(2, 200, 0, 20));
        ask("wrong(2, 1, 0)", x -> x.wrong(2, 1, 0));
        ask("count(9) then", x -> x.count(9));
    }

    /** Their sorts and lengths. */
    private static void askSheets() {
        for (int s = 0; s <= 2; s++) {
            int sheet = s;
            for (int t = 0; t <= 2; t++) {
                int sort = t;
                ask("read(2, " + sheet + ", " + sort + ", 40)", x -> x.read(2, sheet, sort, 40));
            }
            for (int n = 0; n <= 40; n += n == 9 ? 30 : 1) {
                int i = n;
                ask("copy(" + sheet + ", " + i + ", " + sheet + ", " + i + ", 1)", x -> x.copy(sheet, i, sheet, i, 1));
            }
            ask("copy(" + sheet + ", 40, itself)", x -> x.copy(sheet, 40, sheet, 40, 0));
        }
    }

    /** As CASES whose FORMS show the SORT, and whose QUARREL shows the END. */
    private static void askItems() {
        for (int i = 0; i < 3; i++) {
            ask("district(3, 1)", x -> x.district(3, 1));
        }
        askItemsIn(3, 0, World.LAID, 203);
        askItemsIn(4, 1, Due.sort(0, 0, 1, 0, 0, 0), 0);
        // The last two items, in place of the first two.
        ask("copy(0, 7, 0, 0, 2)", x -> x.copy(0, 7, 0, 0, 2));
        askItemsIn(5, 0, Due.sort(0, 0, 0, 3, 1, 2), 203);
    }

    private static void askItemsIn(int district, int sheet, int sort, int end) {
        ask("read(" + district + ", " + sheet + ", 1, 0)", x -> x.read(district, sheet, 1, 0));
        ask("heard(" + district + ", 0, 100)", x -> x.heard(district, 0, 100));
        ask("left(" + district + ") then", x -> x.left(district));
        for (int n = 0; n <= 26; n++) {
            int i = n;
            ask("form(" + district + ", " + i + ") then", x -> x.form(district, i));
        }
        ask("heard(" + district + ", as laid)", x -> x.heard(district, sort, end));
        ask("quarrel(" + district + ", 0) then", x -> x.quarrel(district, 0));
    }

    /** Who lives where: all die, and all that can be settled is. */
    private static void askLives() {
        for (int n = 0; n <= 7; n++) {
            int p = n;
            ask("goes(" + p + ", 1)", x -> x.goes(p, 1));
            ask("settle(" + p + ")", x -> x.settle(p));
        }
        for (int n = 0; n <= 7; n++) {
            int p = n;
            ask("die(" + p + ")", x -> x.die(p));
            ask("personOf(" + p + ", 2) then", x -> x.personOf(p, 2));
            ask("personOf(" + p + ", 4) then", x -> x.personOf(p, 4));
        }
        ask("chest(-1) then", x -> x.chest(-1));
        ask("chest(0) then", x -> x.chest(0));
        ask("chest(1) then", x -> x.chest(1));
    }

    private static void askOneMore() {
        ask("person(0, -1, 0, 0, 0, 1)", x -> x.person(0, -1, 0, 0, 0, 1));
        ask("deed(0, 3)", x -> x.deed(0, 3));
        ask("heard(0, 3, 0)", x -> x.heard(0, 3, 0));
        ask("line(1)", x -> x.line(1));
        ask("section()", x -> x.section());
        ask("district(0, 1)", x -> x.district(0, 1));
        for (int s = 0; s <= 4; s++) {
            int slot = s;
            ask("feed(void)", x -> x.feed(0x766F6964, 4));
            ask("way(" + slot + ", 0)", x -> x.way(slot, 0));
        }
        ask("feed(void)", x -> x.feed(0x766F6964, 4));
        ask("rule(0, 1, 9, 0, 0)", x -> x.rule(0, 1, 9, 0, 0));
    }

    private static void askLater() {
        for (int n = 0; n <= 8; n++) {
            int r = n;
            ask("fall(" + r + ")", x -> x.fall(r));
            ask("fall(" + r + ") again", x -> x.fall(r));
            ask("strike(" + r + ", 3999)", x -> x.strike(r, 3999));
        }
        ask("days(1)", x -> x.days(1));
        ask("days(400)", x -> x.days(400));
        ask("act(0, 0, 1)", x -> x.act(0, 0, 1));
        ask("count(11) then", x -> x.count(11));
        ask("wrong(0, 1, 0) then", x -> x.wrong(0, 1, 0));
        ask("near(0) then", x -> x.near(0));
        ask("near(1) then", x -> x.near(1));
        ask("lost(-1, 0) then", x -> x.lost(-1, 0));
    }
}
