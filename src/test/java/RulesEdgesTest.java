/** The boundary cases of promises 1 to 10 and of part 1 of the Terms: each sentence has a test of its own. */
public final class RulesEdgesTest {
    private static final int NONE = -1, BAD = -2, STATE = -3, FULL = -4;
    private static final int CLASH = -2, GAP = -3;
    private static final int LOW = Integer.MIN_VALUE, HIGH = Integer.MAX_VALUE;

    public static void main(String[] args) throws Exception {
        Each.run(RulesEdgesTest.class);
    }

    private static OneCode with(String... texts) {
        OneCode x = new OneCode();
        for (String text : texts) {
            Due.custom(x, 0, 0, text);
        }
        return x;
    }

    /** So many RULES "void" of custom 4, of RANK 0 from day 0 on. */
    private static OneCode full(int rules) {
        OneCode x = new OneCode();
        for (int i = 0; i < rules; i++) {
            x.feed(0x766F6964, 4);
            Due.be("rule " + i, x.rule(4, 1, 0, 0, 0), i);
        }
        return x;
    }

    private static OneCode fullWithTape() {
        OneCode x = full(80);
        Due.feed(x, "to 2 if age=1");
        return x;
    }

    /** THE TAPE has a sound text: shown by a RULE made of it at last. */
    private static OneCode taped() {
        OneCode x = World.untaped();
        Due.feed(x, "to 2 if age=1");
        return x;
    }

    /** The text is no RULE; its FAULT is at the place, for a RULE and for what it would be of a WAY. */
    private static void fault(String text, int place) {
        OneCode x = new OneCode();
        Due.be("rule of <" + text + ">", Due.rule(x, text, 0, 1, 0, 0, 0), -10 - place);
        Due.be("no rule came of <" + text + ">", x.count(0), 0);
        Due.be("the tape is empty behind <" + text + ">", x.count(9), 0);
    }

    private static void sound(String text, int end, int tests) {
        OneCode x = new OneCode();
        Due.be("rule of <" + text + ">", Due.rule(x, text, 0, 1, 0, 0, 0), 0);
        Due.be("end of <" + text + ">", x.ruleOf(0, 4), end);
        Due.be("tests of <" + text + ">", x.ruleOf(0, 5), tests);
    }

    /** How many SORTS it fits, one by one. */
    private static int fitted(String text) {
        int sum = 0;
        for (int from = 0; from < 1536; from += 256) {
            OneCode x = with(text);
            for (int sort = from; sort < from + 256; sort++) {
                sum += x.fits(0, sort);
            }
        }
        return sum;
    }

    // ---- what it is, a new object

    /** What it is: "An object is used for at most 512 calls after it has been made" */
    static void theLastOf512Calls() {
        OneCode x = new OneCode();
        x.feed(0x766F6964, 4);
        Due.be("rule", x.rule(0, 1, 0, 0, 0), 0);
        for (int i = 3; i <= 509; i++) {
            Due.be("call " + i, x.feed(i, 0), 0);
        }
        Due.be("call 510", x.days(1), 1);
        Due.be("call 511", x.count(0), 1);
        Due.be("call 512", x.answer(0, 0, 0, 1), 0);
    }

    /** Promise 1: "No RULES, DISTRICTS" */
    static void aNewObjectHasNone() {
        OneCode x = new OneCode();
        for (int what = 0; what <= 12; what++) {
            Due.be("count " + what, x.count(what), 0);
        }
        Due.be("no rule to strike", x.strike(0, 0), NONE);
        Due.be("no rule to fall", x.fall(0), NONE);
        Due.be("no rule to tell of", x.ruleOf(0, 0), -5);
        Due.be("no rule to fit", x.fits(0, 0), NONE);
        Due.be("no rule to give an answer", x.why(0, 0, 0, 0, 0), NONE);
        Due.be("no district to carry", x.carried(0, 0), NONE);
        Due.be("no district for a deed", x.deed(0, 0), NONE);
        Due.be("no district for a law", x.law(0, 0, 0, 0, 0), -5);
        Due.be("no district to teach", x.teach(0, 0, 1), NONE);
        Due.be("all bodies are gaps", x.wrong(0, 1, 0) + x.wrong(5, 1, 0), 2 * 1536);
    }

    /** Promise 1: "NOW is 0" */
    static void aNewObjectIsOfDayNone() {
        Due.be("now", new OneCode().count(6), 0);
        Due.be("one day on", new OneCode().days(1), 1);
        OneCode x = with("void");
        Due.be("what is told is known on day 0", x.answer(0, 0, 0, 0), 0);
    }

    // ---- days

    /** Promise 2: "NOW goes on by n DAYS (1 .. 400): NOW" */
    static void daysFewestAndMost() {
        OneCode x = new OneCode();
        Due.be("one", x.days(1), 1);
        Due.be("four hundred", x.days(400), 401);
        Due.be("now", x.count(6), 401);
    }

    /** Promise 2: "(1 .. 400): NOW. BAD" */
    static void daysTooFewOrTooMany() {
        Still.rich("days", x -> {
            for (int n : new int[] {0, -1, -400, LOW, 401, 402, 4000, HIGH}) {
                Due.be("days(" + n + ")", x.days(n), BAD);
            }
        });
    }

    private static OneCode late(int rest) {
        OneCode x = World.rich();
        for (int now = World.NOW; now < 3999 - rest; ) {
            now = x.days(Math.min(400, 3999 - rest - now));
        }
        return x;
    }

    /** Promise 2: "BAD: also beyond 3999" */
    static void daysBeyondTheLast() {
        Still.after("days beyond 3999", () -> late(100), x -> {
            Due.be("two hundred days ahead of it", x.days(200), BAD);
            Due.be("to day 4000", x.days(101), BAD);
            Due.be("most", x.days(400), BAD);
        });
        OneCode x = late(100);
        Due.be("to the last", x.days(100), 3999);
    }

    /** Terms 1: "NOW is a DAY, 0 at first, 3999 at most" */
    static void theLastDay() {
        Still.after("days on the last", () -> late(0), x -> {
            Due.be("it is the last", x.count(6), 3999);
            Due.be("one more", x.days(1), BAD);
            // NOW and this wrap around to a number below 0.
            Due.be("far more", x.days(HIGH), BAD);
        });
    }

    // ---- the tape

    /** Promise 3: "THE TAPE gets the n lowest bytes of a number, the highest of these first (n 0 .. 4): how many it has" */
    static void feedFewestAndMost() {
        OneCode x = new OneCode();
        Due.be("none of a number", x.feed(0x786F6964, 0), 0);
        Due.be("all four", x.feed(0x766F6964, 4), 4);
        Due.be("the highest first", x.rule(0, 1, 0, 0, 0), 0);
        Due.be("one, the lowest", x.feed(0x78787876, 1), 1);
        Due.be("two, the lowest", x.feed(0x78786F69, 2), 3);
        Due.be("and one", x.feed(0xFFFFFF64, 1), 4);
        Due.be("they are void", x.rule(0, 1, 0, 0, 0), 1);
        Due.be("three, the lowest", x.feed(0xFF766F69, 3), 3);
        Due.be("one of a number below 0", x.feed(0x80000064, 1), 4);
        Due.be("they are void, too", x.rule(0, 1, 0, 0, 0), 2);
    }

    /** Promise 3: "(n 0 .. 4): how many it has. BAD" */
    static void feedTooFewOrTooMany() {
        Still.rich("feed", x -> {
            for (int n : new int[] {-1, LOW, 5, 6, 90, HIGH}) {
                Due.be("feed(.., " + n + ")", x.feed(0x3D323D32, n), BAD);
            }
        });
    }

    /** Promise 3: "BAD; FULL" */
    static void feedFull() {
        OneCode x = new OneCode();
        Due.feed(x, "v".repeat(88));
        Due.be("three more", x.feed(0, 3), FULL);
        Due.be("four more", x.feed(0, 4), FULL);
        Due.be("none of them came", x.count(9), 88);
        Due.be("two more", x.feed(0, 2), 90);
        Due.be("one more", x.feed(0, 1), FULL);
        Due.be("nothing more", x.feed(0, 0), 90);
        Due.be("bad ahead of full", x.feed(0, 5), BAD);
        Due.be("bad ahead of full, below", x.feed(0, -1), BAD);
        Due.be("it is full still", x.count(9), 90);
    }

    /** Promise 3: "FULL" changes nothing, in a world that has 90 bytes on THE TAPE. */
    static void feedFullChangesNothing() {
        Still.after("feed full", RulesEdgesTest::ninety, x -> {
            Due.be("feed(.., 1)", x.feed('2', 1), FULL);
            Due.be("feed(.., 4)", x.feed('2', 4), FULL);
        });
        OneCode x = ninety();
        x.feed('2', 1);
        Due.be("the text is read as it was", x.rule(0, 1, 0, 0, 0), 8);
    }

    private static OneCode ninety() {
        OneCode x = World.untaped();
        Due.feed(x, longest());
        Due.be("ninety bytes", x.count(9), 90);
        return x;
    }

    private static String longest() {
        String test = "not house=1";
        return "owed 99 unless " + test + " and " + test + " and " + test + " and " + test + " and " + test;
    }

    /** Terms 1: "A RULE is read from THE TAPE (bytes, 90 at most)" */
    static void ninetyBytesAreRead() {
        sound(longest(), 199, 5);
        Due.be("the longest fits", fitted(longest()), 512);
        fault(longest().substring(0, 89) + "x", 89);
        fault("v".repeat(90), 1);
    }

    // ---- texts

    /** Terms 1: "END: void, holds, owed N (1 or 2 digits), to K (0 .. 3)" */
    static void ends() {
        sound("void", 0, 0);
        sound("holds", 1, 0);
        sound("owed 0", 100, 0);
        sound("owed 00", 100, 0);
        sound("owed 9", 109, 0);
        sound("owed 09", 109, 0);
        sound("owed 10", 110, 0);
        sound("owed 99", 199, 0);
        sound("to 0", 200, 0);
        sound("to 3", 203, 0);
    }

    /** Terms 1: "owed N (1 or 2 digits)" */
    static void noDigitOrThree() {
        fault("owed ", 5);
        fault("owed x", 5);
        fault("owed -1", 5);
        fault("owed  1", 5);
        fault("owed /", 5);
        fault("owed :", 5);
        fault("owed 1/", 6);
        fault("owed 1:", 6);
        fault("owed 100", 7);
        fault("owed 123 if age=1", 7);
        fault("owed 1 2", 7);
    }

    /** Terms 1: "to K (0 .. 3)" */
    static void noSuchWay() {
        fault("to ", 3);
        fault("to 4", 3);
        fault("to 9", 3);
        fault("to /", 3);
        fault("to -1", 3);
        fault("to 00", 4);
        fault("to 33", 4);
    }

    /** Terms 1: "and perhaps: blank, if or unless, blank, TEST" */
    static void perhapsACondition() {
        sound("void", 0, 0);
        sound("void if age=1", 0, 1);
        sound("void unless age=1", 0, 1);
        fault("void ", 5);
        fault("void  if age=1", 5);
        fault("voidif age=1", 4);
        fault("void ifage=1", 7);
        fault("void unlessage=1", 11);
        fault("void if", 7);
        fault("void if ", 8);
        fault("void unless", 11);
        fault("void unless ", 12);
        fault("void if  age=1", 8);
        fault("void age=1", 5);
        fault("void if unless age=1", 8);
        fault("void u", 6);
        fault("void i", 6);
        fault("void unlesx", 10);
        fault("void ix", 6);
    }

    /** Terms 1: "then any number of times blank and blank TEST or blank or blank TEST" */
    static void anyNumberOfTests() {
        sound("void if age=1 and age=2", 0, 2);
        sound("void if age=1 or age=2", 0, 2);
        sound("void if age=1 or age=2 and not age=3 or what=0", 0, 4);
        fault("void if age=1 ", 14);
        fault("void if age=1 and", 17);
        fault("void if age=1 and ", 18);
        fault("void if age=1 or ", 17);
        fault("void if age=1  and age=2", 14);
        fault("void if age=1 andage=2", 17);
        fault("void if age=1 if age=2", 14);
        fault("void if age=1 ax", 15);
        fault("void if age=1 ox", 15);
        fault("void if age=1 not age=2", 14);
    }

    /** Terms 1: "5 TESTS at most" */
    static void fiveTestsAtMost() {
        String five = "void if age=1 or age=2 or age=3 or age=0 and oath=1";
        sound(five, 0, 5);
        fault(five + " ", 51);
        fault(five + " or oath=0", 51);
        fault(five + " and", 51);
        fault(five + "x", 51);
        fault(five + "1", 51);
    }

    /** Terms 1: "with unless it fits if they do not hold" */
    static void unless() {
        Due.be("unless one that always holds", fitted("void unless age<9"), 0);
        Due.be("unless one that never holds", fitted("void unless age>9"), 1536);
        Due.be("unless one of two", fitted("void unless what=0 or oath=0"), 1536 * 3 / 8);
        Due.be("without a condition", fitted("void"), 1536);
    }

    /** Terms 1: "(and binds closer)" */
    static void andBindsCloser() {
        Due.be("or and", fitted("void if what=0 or what=1 and oath=0"), 384 + 192);
        Due.be("and or", fitted("void if what=0 and oath=0 or what=1"), 192 + 384);
        Due.be("and or and", fitted("void if what=0 and oath=0 or what=1 and oath=1"), 384);
        Due.be("unless or and", fitted("void unless what=0 or what=1 and oath=0"), 1536 - 576);
    }

    /** Terms 1: "TEST: perhaps not and a blank, then a FIELD's name, one of < = >, a digit 0 .. 9" */
    static void tests() {
        sound("void if not age=1", 0, 1);
        fault("void if not", 11);
        fault("void if not ", 12);
        fault("void if notage=1", 11);
        fault("void if not  age=1", 12);
        fault("void if not not age=1", 12);
        fault("void if n=1", 9);
        fault("void if nouse=1", 10);
        fault("void if Age=1", 8);
        fault("void if ag=1", 10);
        fault("void if agee=1", 11);
        fault("void if age", 11);
        fault("void if age =1", 11);
        fault("void if age?1", 11);
        fault("void if age;1", 11);
        fault("void if age=", 12);
        fault("void if age==1", 12);
        fault("void if age= 1", 12);
        fault("void if age=-1", 12);
        fault("void if age=/", 12);
        fault("void if age=:", 12);
        fault("void if age=10", 13);
    }

    /** Terms 1: "a digit 0 .. 9" holds of a FIELD as any number, also beyond what the FIELD has. */
    static void digitsBeyondTheField() {
        String[] names = {"what", "age", "house", "kids", "oath", "goods"};
        int[] sizes = {4, 4, 3, 4, 2, 4};
        for (int f = 0; f < 6; f++) {
            int each = 1536 / sizes[f];
            Due.be(names[f] + "<0", fitted("void if " + names[f] + "<0"), 0);
            Due.be(names[f] + "=0", fitted("void if " + names[f] + "=0"), each);
            Due.be(names[f] + ">0", fitted("void if " + names[f] + ">0"), 1536 - each);
            Due.be(names[f] + " at most", fitted("void if " + names[f] + "=" + (sizes[f] - 1)), each);
            Due.be(names[f] + " beyond", fitted("void if " + names[f] + "=" + sizes[f]), 0);
            Due.be(names[f] + "<9", fitted("void if " + names[f] + "<9"), 1536);
            Due.be(names[f] + "=9", fitted("void if " + names[f] + "=9"), 0);
            Due.be("not " + names[f] + "=9", fitted("void if not " + names[f] + "=9"), 1536);
        }
    }

    /** Terms 1: "The FAULT is the place of the first byte with which none begins so" */
    static void theFirstByteOfAFault() {
        fault("x", 0);
        fault("Void", 0);
        fault(" void", 0);
        fault("\u0000", 0);
        fault("\u00ff", 0);
        fault("vx", 1);
        fault("hx", 1);
        fault("ox", 1);
        fault("tx", 1);
        fault("hold x", 4);
        fault("holds x", 6);
        fault("void\u00a0if age=1", 4);
        fault("voids", 4);
        fault("holdss", 5);
        // Only the first byte that is wrong counts, whatever comes behind it.
        fault("voxd if age=x", 2);
    }

    /** Terms 1: "(the end of THE TAPE, if it ends too early)" */
    static void theTapeEndsTooEarly() {
        String whole = "owed 12 unless not house<1 and goods>2 or what=3";
        for (int n = 0; n <= whole.length(); n++) {
            boolean rule = n == 6 || n == 7 || n == 26 || n == 38 || n == 48;
            if (rule) {
                Due.be("the first " + n, Due.rule(new OneCode(), whole.substring(0, n), 0, 1, 0, 0, 0), 0);
            } else {
                fault(whole.substring(0, n), n);
            }
        }
    }

    /** Promise 4: "-10 less the FAULT" of an empty TAPE, in a world whose other things stay as they are. */
    static void anEmptyTape() {
        OneCode x = new OneCode();
        Due.be("rule", x.rule(0, 1, 0, 0, 0), -10);
        Due.be("sworn", x.rule(0, 2, 0, 0, 2), -10);
        Due.be("line", x.rule(5, 4, 0, 0, 0), -10);
        Due.be("no rule came", x.count(0), 0);
        Still.after("a faulty text", World::untaped, y -> {
            Due.be("rule", y.rule(0, 1, 9, 0, 0), -10);
            Due.feed(y, "void if");
            Due.be("rule", y.rule(0, 1, 9, 0, 0), -17);
        });
    }

    /** Promise 4: "(THE TAPE is empty then.)" */
    static void theTapeIsEmptyThen() {
        OneCode x = new OneCode();
        Due.be("a rule", Due.custom(x, 0, 0, "holds if age=1"), 0);
        Due.be("is empty", x.count(9), 0);
        Due.be("a fault", Due.custom(x, 0, 0, "holds unless age=1 x"), -29);
        Due.be("is empty, too", x.count(9), 0);
        Due.be("nothing of it is left", Due.custom(x, 0, 0, "void"), 1);
        Due.be("its end", x.ruleOf(1, 4), 0);
        Due.be("its tests", x.ruleOf(1, 5), 0);
        Due.be("it fits", x.fits(1, 0), 1);
    }

    // ---- rules

    /** Promise 4: "NONE: body, kind" of "a KIND (1 .. 5) of a BODY (0 .. 5)" */
    static void ruleOfNoBodyOrKind() {
        Still.after("rule none", RulesEdgesTest::taped, x -> {
            for (int body : new int[] {-1, LOW, 6, HIGH}) {
                Due.be("body " + body, x.rule(body, 1, 0, 0, 0), NONE);
                Due.be("body " + body + " of the code's kind", x.rule(body, 4, 0, 0, 0), NONE);
            }
            for (int kind : new int[] {0, -1, LOW, 6, HIGH}) {
                Due.be("kind " + kind, x.rule(0, kind, 0, 0, 0), NONE);
                Due.be("kind " + kind + " of the code", x.rule(5, kind, 0, 0, 0), NONE);
            }
        });
    }

    /** Promise 4: "BAD: a KIND that the BODY has not" */
    static void ruleOfAnothersKind() {
        Still.after("rule bad kind", RulesEdgesTest::taped, x -> {
            for (int custom = 0; custom <= 4; custom++) {
                Due.be("line of " + custom, x.rule(custom, 4, 0, 0, 0), BAD);
                Due.be("saved of " + custom, x.rule(custom, 5, 0, 0, 0), BAD);
            }
            Due.be("written of the code", x.rule(5, 1, 0, 0, 0), BAD);
            Due.be("sworn of the code", x.rule(5, 2, 0, 0, 2), BAD);
            Due.be("shown of the code", x.rule(5, 3, 0, 0, 0), BAD);
        });
    }

    /** Terms 1: "CUSTOMS 0 .. 4 have RULES of KINDS 1 to 3, the CODE (5) of KINDS 4 and 5" */
    static void kindsOfBodies() {
        for (int custom = 0; custom <= 4; custom++) {
            OneCode x = new OneCode();
            for (int kind = 1; kind <= 3; kind++) {
                Due.be("kind " + kind, Due.rule(x, "void", custom, kind, 0, 0, kind == 2 ? 2 : 0), kind - 1);
                Due.be("its kind", x.ruleOf(kind - 1, 0), kind);
                Due.be("its body", x.ruleOf(kind - 1, 1), custom);
            }
        }
        OneCode x = new OneCode();
        Due.be("line", Due.rule(x, "void", 5, 4, 0, 0, 0), 0);
        Due.be("saved", Due.rule(x, "void", 5, 5, 0, 0, 0), 1);
        Due.be("its body", x.ruleOf(1, 1), 5);
    }

    /** Promise 4: "BAD: a KIND that the BODY has not, rank" */
    static void ruleOfNoRank() {
        Still.after("rule bad rank", RulesEdgesTest::taped, x -> {
            for (int rank : new int[] {-1, LOW, 10, HIGH}) {
                Due.be("rank " + rank, x.rule(0, 1, rank, 0, 0), BAD);
                Due.be("rank " + rank + " of a line", x.rule(5, 4, rank, 0, 0), BAD);
            }
        });
    }

    /** Terms 1: "A RULE has a RANK (0 .. 9)" */
    static void leastAndGreatestRank() {
        OneCode x = new OneCode();
        Due.be("rank 0", Due.custom(x, 0, 0, "void"), 0);
        Due.be("a rank of 0 answers", x.answer(0, 0, 0, 0), 0);
        Due.be("rank 9", Due.custom(x, 0, 9, "holds"), 1);
        Due.be("rank 8", Due.custom(x, 0, 8, "to 1"), 2);
        Due.be("the greatest answers", x.answer(0, 0, 0, 0), 1);
        Due.be("it is 0", x.ruleOf(0, 2), 0);
        Due.be("it is 9", x.ruleOf(1, 2), 9);
    }

    /** Promise 4: "from (0 .. 3999)" */
    static void ruleFromTooEarlyOrTooLate() {
        Still.after("rule bad from", RulesEdgesTest::taped, x -> {
            for (int from : new int[] {-1, LOW, 4000, HIGH}) {
                Due.be("from " + from, x.rule(0, 1, 0, from, 0), BAD);
                Due.be("sworn from " + from, x.rule(0, 2, 0, from, 2), BAD);
            }
        });
        OneCode x = new OneCode();
        Due.be("from 0", Due.rule(x, "void", 0, 1, 0, 0, 0), 0);
        Due.be("from 3999", Due.rule(x, "void", 0, 1, 0, 3999, 0), 1);
        Due.be("it is 0", x.ruleOf(0, 3), 0);
        Due.be("it is 3999", x.ruleOf(1, 3), 3999);
    }

    /** Promise 4: "with WITNESSES (of a SWORN one; else 0)" and "witnesses; FULL" */
    static void ruleOfTooFewOrTooManyWitnesses() {
        Still.after("rule bad witnesses", RulesEdgesTest::taped, x -> {
            for (int witnesses : new int[] {0, -1, LOW, 21, HIGH}) {
                Due.be("sworn by " + witnesses, x.rule(0, 2, 0, 0, witnesses), BAD);
            }
            for (int witnesses : new int[] {1, -1, 2, LOW, HIGH}) {
                Due.be("written by " + witnesses, x.rule(0, 1, 0, 0, witnesses), BAD);
                Due.be("shown by " + witnesses, x.rule(0, 3, 0, 0, witnesses), BAD);
                Due.be("line by " + witnesses, x.rule(5, 4, 0, 0, witnesses), BAD);
                Due.be("saved by " + witnesses, x.rule(5, 5, 0, 0, witnesses), BAD);
            }
        });
    }

    /** Terms 1: "A SWORN one has WITNESSES (1 .. 20), some of whom FELL" */
    static void fewestAndMostWitnesses() {
        OneCode x = new OneCode();
        Due.be("one", Due.rule(x, "void", 0, 2, 0, 0, 1), 0);
        Due.be("twenty", Due.rule(x, "void", 0, 2, 0, 0, 20), 1);
        Due.be("one stands", x.ruleOf(0, 6), 1);
        Due.be("twenty stand", x.ruleOf(1, 6), 20);
        for (int i = 19; i >= 0; i--) {
            Due.be("it falls", x.fall(1), i);
        }
        Due.be("none stand", x.ruleOf(1, 6), 0);
    }

    /** Promise 4: "FULL (all three: THE TAPE stays)" */
    static void rulesFull() {
        Still.after("rules full", RulesEdgesTest::fullWithTape, x -> {
            Due.be("custom", x.rule(0, 1, 0, 0, 0), FULL);
            Due.be("sworn", x.rule(0, 2, 0, 0, 20), FULL);
            Due.be("code", x.rule(5, 5, 9, 3999, 0), FULL);
        });
        OneCode x = fullWithTape();
        x.rule(0, 1, 0, 0, 0);
        Due.be("the tape stays", x.count(9), 13);
        Due.be("none came", x.count(0), 80);
        Due.be("as a way it is read", x.way(0, 0), 0);
    }

    /** Terms 1: "RULES 0 .. 79, as they come" */
    static void theLastRule() {
        OneCode x = full(79);
        Due.be("room for one", Due.rule(x, "holds if age=1", 0, 2, 1, 2, 3), 79);
        int[] due = {2, 0, 1, 2, 1, 1, 3, -1};
        for (int what = 0; what < 8; what++) {
            Due.be("of the last, " + what, x.ruleOf(79, what), due[what]);
        }
        Due.be("it is struck", x.strike(79, 9), 1);
        Due.be("it falls", x.fall(79), 2);
        Due.be("it answers", x.answer(0, Due.sort(0, 1, 0, 0, 0, 0), 2, 0), 1);
        Due.be("it acts", x.act(79, 0, 1), 6);
        Due.be("none behind it", x.ruleOf(80, 0), -5);
        Due.be("none behind it is struck", x.strike(80, 9), NONE);
    }

    /** Promise 4: "NONE: body, kind; BAD" comes as named: NONE ahead of BAD, BAD ahead of FULL, each ahead of a FAULT. */
    static void ruleRefusalsInTheirOrder() {
        OneCode x = full(80);
        Due.feed(x, "no rule");
        Due.be("none ahead of all, body", x.rule(6, 1, 10, -1, 1), NONE);
        Due.be("none ahead of all, kind", x.rule(0, 6, 10, -1, 1), NONE);
        Due.be("none for body and kind", x.rule(-1, 0, 0, 0, 0), NONE);
        Due.be("bad ahead of full, kind", x.rule(0, 4, 0, 0, 0), BAD);
        Due.be("bad ahead of full, rank", x.rule(0, 1, 10, 0, 0), BAD);
        Due.be("bad ahead of full, from", x.rule(0, 1, 0, 4000, 0), BAD);
        Due.be("bad ahead of full, witnesses", x.rule(0, 1, 0, 0, 1), BAD);
        Due.be("full ahead of a fault", x.rule(0, 1, 0, 0, 0), FULL);
        Due.be("the tape stays", x.count(9), 7);
        OneCode y = new OneCode();
        Due.feed(y, "no rule");
        Due.be("none ahead of a fault", y.rule(6, 1, 0, 0, 0), NONE);
        Due.be("bad ahead of a fault", y.rule(0, 1, 10, 0, 0), BAD);
        Due.be("the tape stays", y.count(9), 7);
        Due.be("then the fault", y.rule(0, 1, 0, 0, 0), -10);
    }

    // ---- strike, fall

    /** Promise 5: "NONE; BAD: from (0 .. 3999); STATE: it was" - NONE: no such RULE. */
    static void strikeNone() {
        Still.rich("strike none", x -> {
            for (int rule : new int[] {-1, LOW, 8, 79, 80, HIGH}) {
                Due.be("strike(" + rule + ")", x.strike(rule, 20), NONE);
                Due.be("none ahead of bad", x.strike(rule, -1), NONE);
            }
        });
    }

    /** Promise 5: "BAD: from (0 .. 3999)" */
    static void strikeTooEarlyOrTooLate() {
        Still.rich("strike bad", x -> {
            for (int from : new int[] {-1, LOW, 4000, HIGH}) {
                Due.be("from " + from, x.strike(0, from), BAD);
                Due.be("bad ahead of state", x.strike(2, from), BAD);
            }
        });
        OneCode x = with("void", "void");
        Due.be("from 0", x.strike(0, 0), 1);
        Due.be("from 3999", x.strike(1, 3999), 1);
        Due.be("it is 0", x.ruleOf(0, 7), 0);
        Due.be("it is 3999", x.ruleOf(1, 7), 3999);
    }

    /** Promise 5: "STATE: it was" */
    static void strikeTwice() {
        Still.rich("strike state", x -> {
            for (int from : new int[] {30, 0, 20, 31, 3999}) {
                Due.be("from " + from, x.strike(2, from), STATE);
            }
        });
        OneCode x = with("void");
        x.strike(0, 0);
        x.days(1);
        Due.be("also from day 0", x.strike(0, 5), STATE);
        Due.be("it is as it was", x.ruleOf(0, 7), 0);
        Due.be("known as it was", x.answer(0, 0, 0, 0), GAP);
    }

    /** Promise 6: "how many stand. NONE" */
    static void fallNone() {
        Still.rich("fall none", x -> {
            for (int rule : new int[] {-1, LOW, 8, 79, 80, HIGH}) {
                Due.be("fall(" + rule + ")", x.fall(rule), NONE);
            }
        });
    }

    /** Promise 6: "STATE: it is no SWORN one" */
    static void fallOfNoSwornOne() {
        Still.rich("fall state", x -> {
            for (int rule : new int[] {0, 2, 3, 5, 7}) {
                Due.be("fall(" + rule + ")", x.fall(rule), STATE);
            }
        });
    }

    /** Promise 6: "or none stand" */
    static void fallOfNone() {
        Still.after("fall of none", RulesEdgesTest::unsworn, x -> {
            Due.be("none stand", x.fall(1), STATE);
            Due.be("none still", x.fall(1), STATE);
        });
    }

    private static OneCode unsworn() {
        OneCode x = World.rich();
        Due.be("one", x.fall(1), 1);
        Due.be("none", x.fall(1), 0);
        return x;
    }

    // ---- ruleOf, fits

    /** Promise 7: "-5: none such" */
    static void ruleOfNone() {
        Still.rich("ruleOf none", x -> {
            for (int rule : new int[] {-1, LOW, 8, 79, 80, HIGH}) {
                Due.be("ruleOf(" + rule + ", 0)", x.ruleOf(rule, 0), -5);
                Due.be("ruleOf(" + rule + ", 7)", x.ruleOf(rule, 7), -5);
            }
            for (int what : new int[] {-1, LOW, 8, HIGH}) {
                Due.be("ruleOf(0, " + what + ")", x.ruleOf(0, what), -5);
            }
        });
    }

    /** Promise 7: "6 WITNESSES that stand (0 of others)" */
    static void noWitnessesOfOthers() {
        OneCode x = World.rich();
        for (int rule : new int[] {0, 2, 3, 4, 5, 6, 7}) {
            Due.be("witnesses of " + rule, x.ruleOf(rule, 6), 0);
        }
        Due.be("of the sworn one", x.ruleOf(1, 6), 2);
    }

    /** Promise 7: "7 from which DAY it is STRUCK (-1)" */
    static void notStruck() {
        OneCode x = World.rich();
        for (int rule : new int[] {0, 1, 3, 4, 5, 6, 7}) {
            Due.be("rule " + rule + " is not struck", x.ruleOf(rule, 7), -1);
        }
        Due.be("rule 2 is", x.ruleOf(2, 7), 30);
    }

    /** Promise 7: "5 how many TESTS" */
    static void noTestsAndFive() {
        OneCode x = with("void", "void if age=1", "void if age=1 and age=1 and age=1 and age=1 and age=1");
        Due.be("none", x.ruleOf(0, 5), 0);
        Due.be("one", x.ruleOf(1, 5), 1);
        Due.be("five", x.ruleOf(2, 5), 5);
    }

    /** Promise 8: "1, 0. NONE" */
    static void fitsNone() {
        Still.rich("fits none", x -> {
            for (int rule : new int[] {-1, LOW, 8, 79, 80, HIGH}) {
                Due.be("fits(" + rule + ", 0)", x.fits(rule, 0), NONE);
            }
            for (int sort : new int[] {-1, LOW, 1536, HIGH}) {
                Due.be("fits(3, " + sort + ")", x.fits(3, sort), NONE);
            }
        });
        OneCode x = with("void");
        Due.be("the first sort", x.fits(0, 0), 1);
        Due.be("the last sort", x.fits(0, 1535), 1);
    }

    /** Promise 8: "Whether a RULE fits a SORT (in force or not)" */
    static void fitsInForceOrNot() {
        OneCode x = new OneCode();
        Due.rule(x, "void", 0, 1, 0, 3999, 0);
        Due.be("not yet", x.fits(0, 0), 1);
        Due.rule(x, "void", 0, 2, 0, 0, 1);
        Due.be("sworn by one", x.fits(1, 0), 1);
        x.fall(1);
        Due.be("sworn by none", x.fits(1, 0), 1);
        x.strike(0, 0);
        Due.be("struck", x.fits(0, 0), 1);
    }

    /** Terms 1: "FACTS are six FIELDS: 0 what (0 wed, 1 sold, 2 died, 3 owed), 1 age (0 .. 3), 2 house (0 .. 2), 3 kids (0 .. 3), 4 oath (0, 1), 5 goods (0 .. 3)" */
    static void theFieldsOfTheFirstAndTheLastSort() {
        OneCode x = with("void if what=3 and age=3 and house=2 and kids=3 and goods=3", "void if oath=1",
            "void if what=0 and age=0 and house=0 and kids=0 and goods=0", "void if oath=0");
        Due.be("the last", x.fits(0, 1535), 1);
        Due.be("the last has an oath", x.fits(1, 1535), 1);
        Due.be("the last but one", x.fits(0, 1534), 0);
        Due.be("the first", x.fits(2, 0), 1);
        Due.be("the first has no oath", x.fits(3, 0), 1);
        Due.be("the second", x.fits(2, 1), 0);
        Due.be("the first with an oath", x.fits(1, 4), 1);
    }

    // ---- answer, why

    /** Promise 9: "-5: none such (a, k 0 and more)" */
    static void answerNone() {
        Still.rich("answer none", x -> {
            for (int body : new int[] {-1, LOW, 6, HIGH}) {
                Due.be("body " + body, x.answer(body, 0, 20, 20), -5);
            }
            for (int sort : new int[] {-1, LOW, 1536, HIGH}) {
                Due.be("sort " + sort, x.answer(1, sort, 20, 20), -5);
            }
            for (int day : new int[] {-1, LOW}) {
                Due.be("a " + day, x.answer(1, 0, day, 20), -5);
                Due.be("k " + day, x.answer(1, 0, 20, day), -5);
            }
        });
    }

    /** Promise 9: "(a, k 0 and more)" */
    static void answerOfTheFirstAndOfFarDays() {
        OneCode x = with("void");
        Due.be("day 0", x.answer(0, 0, 0, 0), 0);
        Due.be("a beyond all days", x.answer(0, 1535, 4000, 0), 0);
        Due.be("k beyond all days", x.answer(0, 1535, 0, 4000), 0);
        Due.be("most", x.answer(0, 1535, HIGH, HIGH), 0);
    }

    /** Promise 9: "ANSWER of a BODY (LINES of the CODE) for a SORT" */
    static void answerOfLinesAlone() {
        OneCode x = new OneCode();
        Due.rule(x, "void", 5, 5, 9, 0, 0);
        Due.be("saved ones do not answer", x.answer(5, 0, 0, 0), GAP);
        Due.line(x, 0, "holds if age=1");
        Due.be("a line does", x.answer(5, Due.sort(0, 1, 0, 0, 0, 0), 0, 0), 1);
        Due.be("where it fits", x.answer(5, 0, 0, 0), GAP);
    }

    /** Terms 1: "holds from a DAY on, till ahead of one from which it is STRUCK" */
    static void fromItsDayTillAheadOfTheStrike() {
        OneCode x = new OneCode();
        Due.rule(x, "void", 0, 1, 0, 10, 0);
        x.strike(0, 12);
        int[] due = {GAP, GAP, 0, 0, GAP, GAP};
        int[] days = {0, 9, 10, 11, 12, 3999};
        for (int i = 0; i < days.length; i++) {
            Due.be("as of " + days[i], x.answer(0, 0, days[i], 0), due[i]);
        }
        Due.rule(x, "void", 1, 1, 0, 10, 0);
        x.strike(1, 10);
        Due.be("struck from its first day", x.answer(1, 0, 10, 0), GAP);
        Due.be("and then", x.answer(1, 0, 11, 0), GAP);
        Due.rule(x, "void", 2, 1, 0, 10, 0);
        x.strike(2, 5);
        Due.be("struck ahead of it", x.answer(2, 0, 10, 0), GAP);
    }

    /** Terms 1: "it counts while 2 or more stand" */
    static void twoWitnessesAreEnough() {
        OneCode x = new OneCode();
        Due.rule(x, "void", 0, 2, 0, 0, 2);
        Due.be("two", x.answer(0, 0, 0, 0), 0);
        x.fall(0);
        Due.be("one", x.answer(0, 0, 0, 0), GAP);
        x.fall(0);
        Due.be("none", x.answer(0, 0, 0, 0), GAP);
        Due.rule(x, "holds", 0, 2, 0, 0, 1);
        Due.be("one from the first", x.answer(0, 0, 0, 0), GAP);
        Due.rule(x, "holds", 0, 2, 0, 0, 3);
        x.fall(2);
        Due.be("two of three", x.answer(0, 0, 0, 0), 1);
        x.fall(2);
        Due.be("one of three", x.answer(0, 0, 0, 0), GAP);
    }

    /** Terms 1: "What is told (RULES, that one is STRUCK, that one FELL) is KNOWN from the NOW of then on" */
    static void knownFromTheDayOn() {
        OneCode x = new OneCode();
        x.days(5);
        Due.rule(x, "void", 0, 2, 0, 0, 2);
        Due.rule(x, "holds", 1, 1, 0, 0, 0);
        Due.be("a rule on the day ahead", x.answer(0, 0, 5, 4), GAP);
        Due.be("a rule on the day", x.answer(0, 0, 0, 5), 0);
        x.days(5);
        x.fall(0);
        x.strike(1, 0);
        Due.be("a fall on the day ahead", x.answer(0, 0, 10, 9), 0);
        Due.be("a fall on the day", x.answer(0, 0, 0, 10), GAP);
        Due.be("a strike on the day ahead", x.answer(1, 0, 10, 9), 1);
        Due.be("a strike on the day", x.answer(1, 0, 0, 10), GAP);
    }

    /** Terms 1: "RULES KNOWN on k, with a DAY no more than a, not STRUCK (as KNOWN on k) from a or an earlier DAY" */
    static void inForceAsOfAsKnown() {
        OneCode x = new OneCode();
        x.days(3);
        Due.rule(x, "void", 0, 1, 0, 7, 0);
        x.days(1);
        x.strike(0, 9);
        int[][] days = {{6, 4}, {7, 4}, {8, 4}, {9, 4}, {9, 3}, {7, 3}, {7, 2}, {10, 4}, {10, 3}};
        int[] due = {GAP, 0, 0, GAP, 0, 0, GAP, GAP, 0};
        for (int i = 0; i < days.length; i++) {
            Due.be("as of " + days[i][0] + " known on " + days[i][1], x.answer(0, 0, days[i][0], days[i][1]), due[i]);
        }
    }

    /** Terms 1: "SWORN ones with 2 standing (as KNOWN on k)" */
    static void standingAsKnown() {
        OneCode x = new OneCode();
        Due.rule(x, "void", 0, 2, 0, 0, 3);
        x.days(2);
        x.fall(0);
        x.days(2);
        x.fall(0);
        Due.be("three stand on 1", x.answer(0, 0, 9, 1), 0);
        Due.be("two stand on 2", x.answer(0, 0, 9, 2), 0);
        Due.be("two stand on 3", x.answer(0, 0, 9, 3), 0);
        Due.be("one stands on 4", x.answer(0, 0, 9, 4), GAP);
    }

    /** Terms 1: "those of the greatest RANK: their END, if all have one; else a CLASH (-2); without any a GAP (-3)" */
    static void clashAndGap() {
        OneCode x = with("void", "void", "void if age=1");
        Due.be("three of one end", x.answer(0, Due.sort(0, 1, 0, 0, 0, 0), 0, 0), 0);
        Due.custom(x, 0, 0, "to 0 if age=1");
        Due.be("one of another", x.answer(0, Due.sort(0, 1, 0, 0, 0, 0), 0, 0), CLASH);
        Due.be("where it does not fit", x.answer(0, 0, 0, 0), 0);
        Due.be("no rule", x.answer(1, 0, 0, 0), GAP);
        Due.custom(x, 1, 0, "void if age=1");
        Due.be("none that fits", x.answer(1, 0, 0, 0), GAP);
        Due.custom(x, 0, 1, "owed 0 if age=1");
        Due.be("one of a greater rank", x.answer(0, Due.sort(0, 1, 0, 0, 0, 0), 0, 0), 100);
        Due.custom(x, 0, 1, "owed 00 if age=1");
        Due.be("of one end, written otherwise", x.answer(0, Due.sort(0, 1, 0, 0, 0, 0), 0, 0), 100);
    }

    /** Promise 10: "NONE: none such" */
    static void whyNone() {
        Still.rich("why none", x -> {
            for (int i : new int[] {-1, LOW, 1, 2, HIGH}) {
                Due.be("i " + i, x.why(1, 0, 20, 20, i), NONE);
            }
            Due.be("there is one", x.why(1, 0, 20, 20, 0), 3);
            Due.be("a third of a clash", x.why(1, Due.sort(0, 0, 2, 0, 0, 0), 20, 20, 2), NONE);
            Due.be("of a gap", x.why(3, 0, 20, 20, 0), NONE);
            Due.be("of the code's saved ones", x.why(5, Due.sort(2, 0, 0, 0, 0, 0), 20, 20, 1), NONE);
        });
    }

    /** Promise 10: "of those that give that ANSWER (of a CLASH: of the greatest RANK)" */
    static void whyOfAClash() {
        OneCode x = World.untaped();
        int sort = Due.sort(0, 0, 2, 0, 0, 0);
        Due.be("one of a lesser rank", Due.custom(x, 1, 0, "to 0"), 8);
        Due.be("it is a clash", x.answer(1, sort, 20, 20), CLASH);
        Due.be("the first", x.why(1, sort, 20, 20, 0), 3);
        Due.be("the second", x.why(1, sort, 20, 20, 1), 4);
        Due.be("none of a lesser rank", x.why(1, sort, 20, 20, 2), NONE);
    }

    /** Promise 10: "-5: likewise" */
    static void whyOfNoSuch() {
        Still.rich("why none such", x -> {
            for (int body : new int[] {-1, LOW, 6, HIGH}) {
                Due.be("body " + body, x.why(body, 0, 20, 20, 0), -5);
            }
            for (int sort : new int[] {-1, LOW, 1536, HIGH}) {
                Due.be("sort " + sort, x.why(1, sort, 20, 20, 0), -5);
            }
            for (int day : new int[] {-1, LOW}) {
                Due.be("a " + day, x.why(1, 0, day, 20, 0), -5);
                Due.be("k " + day, x.why(1, 0, 20, day, 0), -5);
            }
        });
        OneCode x = with("void");
        Due.be("a, k far", x.why(0, 1535, HIGH, HIGH, 0), 0);
    }
}
