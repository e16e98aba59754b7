/** Promises 1 to 10: a new object, days, texts, rules. */
public final class RulesTest {
    public static void main(String[] args) {
        aNewObject();
        days();
        feed();
        rule();
        ruleRefuses();
        ruleFull();
        faults();
        longestText();
        nothingIsLeftOfAFault();
        strike();
        fall();
        ruleOf();
        fits();
        binding();
        answer();
        answerKnown();
        answerSworn();
        answerOfTheCode();
        why();
        Due.end();
    }

    private static void aNewObject() {
        OneCode x = new OneCode();
        for (int what = 0; what <= 12; what++) {
            Due.be("1 count(" + what + ")", x.count(what), 0);
        }
        Due.be("1 answer", x.answer(0, 0, 0, 0), -3);
        Due.be("1 ruleOf", x.ruleOf(0, 0), -5);
        Due.be("1 chest", x.chest(-1), 0);
        Due.be("1 waits", x.waits(), -1);
        Due.be("1 courts", x.courts(2), 2);
        Due.be("1 trace", x.trace(0), -1);
        Due.be("1 cell", x.cell(0, 0, 0), -11);
    }

    private static void days() {
        OneCode x = new OneCode();
        Due.be("2 days 0", x.days(0), -2);
        Due.be("2 days 401", x.days(401), -2);
        Due.be("2 days below", x.days(-1), -2);
        Due.be("2 days most", x.days(Integer.MAX_VALUE), -2);
        Due.be("2 days stay", x.count(6), 0);
        Due.be("2 days 1", x.days(1), 1);
        for (int i = 1; i <= 9; i++) {
            Due.be("2 days 400", x.days(400), 1 + 400 * i);
        }
        Due.be("2 days beyond", x.days(399), -2);
        Due.be("2 days to the last", x.days(398), 3999);
        Due.be("2 days behind the last", x.days(1), -2);
        Due.be("2 now", x.count(6), 3999);
    }

    private static void feed() {
        OneCode x = new OneCode();
        Due.be("3 feed 0", x.feed(77, 0), 0);
        Due.be("3 feed -1", x.feed(77, -1), -2);
        Due.be("3 feed 5", x.feed(77, 5), -2);
        Due.be("3 feed lowest three", x.feed(0x7F766F69, 3), 3);
        Due.be("3 feed lowest one", x.feed(0x01020364, 1), 4);
        Due.be("3 the highest first", x.rule(0, 1, 0, 0, 0), 0);
        for (int i = 1; i <= 22; i++) {
            Due.be("3 feed 4", x.feed(-1, 4), 4 * i);
        }
        Due.be("3 feed beyond", x.feed(0, 3), -4);
        Due.be("3 feed beyond, n wrong", x.feed(0, 6), -2);
        Due.be("3 feed to 90", x.feed(0, 2), 90);
        Due.be("3 feed full", x.feed(0, 1), -4);
        Due.be("3 feed nothing more", x.feed(0, 0), 90);
        Due.be("3 feed count", x.count(9), 90);
        Due.be("3 bytes above 127", x.rule(0, 1, 0, 0, 0), -10);
    }

    private static void rule() {
        OneCode x = new OneCode();
        Due.be("4 custom written", Due.rule(x, "void", 4, 1, 9, 3999, 0), 0);
        Due.be("4 the tape is empty", x.count(9), 0);
        Due.be("4 custom sworn", Due.rule(x, "holds", 0, 2, 0, 0, 20), 1);
        Due.be("4 custom shown", Due.rule(x, "owed 0", 0, 3, 0, 0, 0), 2);
        Due.be("4 line", Due.rule(x, "to 0", 5, 4, 0, 0, 0), 3);
        Due.be("4 saved", Due.rule(x, "to 3", 5, 5, 0, 0, 0), 4);
        Due.be("4 count", x.count(0), 5);
    }

    private static void ruleRefuses() {
        OneCode x = new OneCode();
        Due.feed(x, "holds");
        int[][] none = {{-1, 1}, {6, 1}, {0, 0}, {0, 6}, {0, -1}, {9, 9}};
        for (int[] n : none) {
            Due.be("4 none", x.rule(n[0], n[1], 99, -1, 99), -1);
        }
        int[][] bad = {{0, 4, 0, 0, 0}, {4, 5, 0, 0, 0}, {5, 1, 0, 0, 0}, {5, 2, 0, 0, 2}, {5, 3, 0, 0, 0},
            {0, 1, -1, 0, 0}, {0, 1, 10, 0, 0}, {0, 1, 0, -1, 0}, {0, 1, 0, 4000, 0}, {0, 1, 0, 0, 1},
            {0, 1, 0, 0, -1}, {0, 2, 0, 0, 0}, {0, 2, 0, 0, 21}, {0, 2, 0, 0, -1}, {0, 3, 0, 0, 1}, {5, 4, 0, 0, 1}};
        for (int[] b : bad) {
            Due.be("4 bad", x.rule(b[0], b[1], b[2], b[3], b[4]), -2);
        }
        Due.be("4 the tape stays", x.count(9), 5);
        Due.be("4 no rule came", x.count(0), 0);
        Due.be("4 then it is one", x.rule(0, 1, 0, 0, 0), 0);
        Due.be("4 an empty tape", x.rule(0, 1, 0, 0, 0), -10);
        Due.be("4 bad ahead of a fault", x.rule(0, 1, 10, 0, 0), -2);
        Due.feed(x, "holdt");
        Due.be("4 a fault", x.rule(0, 1, 0, 0, 0), -14);
        Due.be("4 a fault empties the tape", x.count(9), 0);
        Due.be("4 a fault is no rule", x.count(0), 1);
    }

    private static void ruleFull() {
        OneCode x = new OneCode();
        for (int i = 0; i < 80; i++) {
            Due.be("4 rule " + i, Due.rule(x, "void", i % 5, 1, 0, 0, 0), i);
        }
        Due.feed(x, "x");
        Due.be("4 full ahead of a fault", x.rule(0, 1, 0, 0, 0), -4);
        Due.be("4 bad ahead of full", x.rule(0, 1, 0, 0, 1), -2);
        Due.be("4 full: the tape stays", x.count(9), 1);
        Due.be("4 full", x.count(0), 80);
    }

    private static void faults() {
        String[] texts = {"", "v", "voi", "Void", "voids", "void ", "void  if", "void i", "void it", "void unles age=1",
            "void unless", "void unless ", "void if age", "void if age ", "void if age=", "void if age=x",
            "void if age=10", "void if age=1 ", "void if age=1 x", "void if age=1 an", "void if age=1 andage=1",
            "void if age=1 and", "void if age=1 o", "void if age=1 oage=1", "void if age=1 or not", "void if nota=1",
            "void if not not age=1", "void if agee=1", "void if good=1", "void if goods!1", "void if oath>1 or",
            "owed", "owed ", "owed x", "owed 123", "owed 12 3", "owed 1if", "to", "to ", "to 4", "to 33", "to -1",
            "holds if", "holds if ", "holds if w=1", "holds if what=1\n", "holds if kids<9 or house>0 and", "if",
            "void if age=1 or age=1 or age=1 or age=1 or age=1 or age=1", "void\u00e9", "void if age=1 unless age=1"};
        int[] faults = {0, 1, 3, 0, 4, 5, 5, 6, 6, 10, 11, 12, 11, 11, 12, 12, 13, 14, 14, 16, 17, 17, 15, 15, 20,
            11, 12, 11, 12, 13, 17, 4, 5, 5, 7, 8, 6, 2, 3, 3, 4, 3, 8, 9, 10, 15, 30, 0, 49, 4, 14};
        for (int i = 0; i < texts.length; i++) {
            OneCode x = new OneCode();
            Due.be("4 fault of <" + texts[i] + ">", Due.rule(x, texts[i], 0, 1, 0, 0, 0), -10 - faults[i]);
        }
        Due.be("4 all texts have their fault", texts.length, faults.length);
    }

    private static void longestText() {
        OneCode x = new OneCode();
        String test = "not house=1";
        String text = "owed 99 unless " + test + " and " + test + " and " + test + " and " + test + " and " + test;
        Due.be("4 ninety bytes", text.length(), 90);
        Due.be("4 longest", Due.rule(x, text, 0, 1, 0, 0, 0), 0);
        Due.be("4 longest tests", x.ruleOf(0, 5), 5);
        Due.be("4 longest fits", x.fits(0, Due.sort(0, 0, 1, 0, 0, 0)), 1);
        Due.be("4 longest fits not", x.fits(0, Due.sort(0, 0, 2, 0, 0, 0)), 0);
        Due.be("4 longest end", x.ruleOf(0, 4), 199);
    }

    /** What was read ahead of a fault, or for moves(), is not in what is read next. */
    private static void nothingIsLeftOfAFault() {
        OneCode x = new OneCode();
        Due.be("4 a fault behind unless", Due.rule(x, "to 2 unless age=1 or age=x", 0, 1, 0, 0, 0), -35);
        Due.be("4 then no condition", Due.custom(x, 0, 0, "void"), 0);
        Due.be("4 no tests", x.ruleOf(0, 5), 0);
        Due.be("4 its end", x.ruleOf(0, 4), 0);
        Due.be("4 it fits", x.fits(0, 0), 1);
        Due.feed(x, "holds");
        Due.be("4 moved", x.moves(0, 0), 1536);
        Due.feed(x, " if age=1");
        Due.be("4 as fed on", x.rule(0, 1, 0, 0, 0), 1);
        Due.be("4 it fits not", x.fits(1, 0), 0);
        Due.be("4 the other still", x.fits(0, 0), 1);
    }

    private static void strike() {
        OneCode x = new OneCode();
        Due.custom(x, 0, 1, "void");
        Due.be("5 none", x.strike(1, -1), -1);
        Due.be("5 none below", x.strike(-1, 0), -1);
        Due.be("5 bad", x.strike(0, -1), -2);
        Due.be("5 bad above", x.strike(0, 4000), -2);
        Due.be("5 not struck so far", x.ruleOf(0, 7), -1);
        Due.be("5 struck", x.strike(0, 3999), 1);
        Due.be("5 bad ahead of state", x.strike(0, 4000), -2);
        Due.be("5 state", x.strike(0, 0), -3);
        Due.be("5 from", x.ruleOf(0, 7), 3999);
        Due.be("5 ahead of it", x.answer(0, 0, 3998, 0), 0);
        Due.be("5 on it", x.answer(0, 0, 3999, 0), -3);
        Due.be("5 behind it", x.answer(0, 0, Integer.MAX_VALUE, Integer.MAX_VALUE), -3);
        Due.custom(x, 0, 1, "holds");
        Due.be("5 from day 0", x.strike(1, 0), 1);
        Due.be("5 day 0", x.ruleOf(1, 7), 0);
        Due.be("5 struck once", x.strike(1, 5), -3);
    }

    private static void fall() {
        OneCode x = new OneCode();
        Due.rule(x, "void", 0, 2, 0, 0, 3);
        Due.rule(x, "void", 0, 1, 0, 0, 0);
        Due.be("6 none", x.fall(2), -1);
        Due.be("6 none below", x.fall(-1), -1);
        Due.be("6 no sworn one", x.fall(1), -3);
        Due.be("6 two", x.fall(0), 2);
        Due.be("6 it counts", x.answer(0, 0, 0, 0), 0);
        Due.be("6 one", x.fall(0), 1);
        Due.be("6 none stand", x.fall(0), 0);
        Due.be("6 no more", x.fall(0), -3);
        Due.be("6 stand", x.ruleOf(0, 6), 0);
    }

    private static void ruleOf() {
        OneCode x = new OneCode();
        Due.rule(x, "owed 07 if age=1 or oath=0", 3, 2, 4, 17, 6);
        int[] want = {2, 3, 4, 17, 107, 2, 6, -1};
        for (int what = 0; what < 8; what++) {
            Due.be("7 of a sworn one " + what, x.ruleOf(0, what), want[what]);
        }
        x.fall(0);
        Due.be("7 stand", x.ruleOf(0, 6), 5);
        Due.rule(x, "to 2", 5, 5, 0, 0, 0);
        int[] saved = {5, 5, 0, 0, 202, 0, 0, -1};
        for (int what = 0; what < 8; what++) {
            Due.be("7 of a saved one " + what, x.ruleOf(1, what), saved[what]);
        }
        Due.be("7 what below", x.ruleOf(0, -1), -5);
        Due.be("7 what above", x.ruleOf(0, 8), -5);
        Due.be("7 none", x.ruleOf(2, 0), -5);
        Due.be("7 none below", x.ruleOf(-1, 0), -5);
        String[] ends = {"void", "holds", "owed 0", "owed 00", "owed 9", "owed 42", "to 0", "to 1", "to 3"};
        int[] due = {0, 1, 100, 100, 109, 142, 200, 201, 203};
        for (int i = 0; i < ends.length; i++) {
            int rule = Due.custom(x, 0, 0, ends[i]);
            Due.be("7 end of " + ends[i], x.ruleOf(rule, 4), due[i]);
        }
    }

    private static void fits() {
        String[] names = {"what", "age", "house", "kids", "oath", "goods"};
        int[] sizes = {4, 4, 3, 4, 2, 4};
        for (int f = 0; f < 6; f++) {
            OneCode x = new OneCode();
            for (int sign = 0; sign < 3; sign++) {
                int rule = Due.custom(x, 0, 0, "void if " + names[f] + "<=>".charAt(sign) + "1");
                int not = Due.custom(x, 0, 0, "void if not " + names[f] + "<=>".charAt(sign) + "1");
                for (int v = 0; v < sizes[f]; v++) {
                    int[] facts = {1, 1, 1, 1, 1, 1};
                    facts[f] = v;
                    int sort = Due.sort(facts[0], facts[1], facts[2], facts[3], facts[4], facts[5]);
                    boolean so = sign == 0 ? v < 1 : sign == 1 ? v == 1 : v > 1;
                    Due.be("8 " + names[f] + " " + v, x.fits(rule, sort), so ? 1 : 0);
                    Due.be("8 not " + names[f] + " " + v, x.fits(not, sort), so ? 0 : 1);
                }
            }
        }
        OneCode x = new OneCode();
        Due.rule(x, "void if goods<9", 0, 2, 0, 3999, 1);
        x.strike(0, 0);
        Due.be("8 in force or not", x.fits(0, 1535), 1);
        Due.be("8 no rule", x.fits(1, 0), -1);
        Due.be("8 no rule below", x.fits(-1, 0), -1);
        Due.be("8 no sort", x.fits(0, 1536), -1);
        Due.be("8 no sort below", x.fits(0, -1), -1);
    }

    private static void binding() {
        OneCode x = new OneCode();
        int or = Due.custom(x, 0, 0, "void if age=1 or oath=1 and kids=1");
        int and = Due.custom(x, 0, 0, "void if age=1 and oath=1 or kids=1");
        int unless = Due.custom(x, 0, 0, "void unless age=1 or oath=1 and kids=1");
        int two = Due.custom(x, 0, 0, "void if age=1 and not oath=1 or kids=1 and house=2");
        for (int bits = 0; bits < 8; bits++) {
            boolean age = (bits & 1) != 0;
            boolean oath = (bits & 2) != 0;
            boolean kids = (bits & 4) != 0;
            int sort = Due.sort(0, age ? 1 : 0, 0, kids ? 1 : 0, oath ? 1 : 0, 0);
            int big = Due.sort(0, age ? 1 : 0, 2, kids ? 1 : 0, oath ? 1 : 0, 0);
            Due.be("8 or and", x.fits(or, sort), age || oath && kids ? 1 : 0);
            Due.be("8 and or", x.fits(and, sort), age && oath || kids ? 1 : 0);
            Due.be("8 unless", x.fits(unless, sort), age || oath && kids ? 0 : 1);
            Due.be("8 two runs", x.fits(two, big), age && !oath || kids ? 1 : 0);
        }
    }

    private static void answer() {
        OneCode x = new OneCode();
        Due.custom(x, 0, 3, "void if what=0");
        Due.custom(x, 0, 3, "holds if age=1");
        Due.custom(x, 0, 2, "to 1");
        Due.custom(x, 0, 3, "void if age=2");
        Due.custom(x, 1, 9, "to 3");
        Due.be("9 by the greatest rank", x.answer(0, Due.sort(0, 0, 0, 0, 0, 0), 0, 0), 0);
        Due.be("9 a clash", x.answer(0, Due.sort(0, 1, 0, 0, 0, 0), 0, 0), -2);
        Due.be("9 two of one end", x.answer(0, Due.sort(0, 2, 0, 0, 0, 0), 0, 0), 0);
        Due.be("9 one alone", x.answer(0, Due.sort(1, 1, 0, 0, 0, 0), 0, 0), 1);
        Due.be("9 the lesser rank", x.answer(0, Due.sort(1, 0, 0, 0, 0, 0), 0, 0), 201);
        Due.be("9 a gap", x.answer(2, 0, 0, 0), -3);
        Due.be("9 another body", x.answer(1, 0, 0, 0), 203);
        Due.be("9 body", x.answer(6, 0, 0, 0), -5);
        Due.be("9 body below", x.answer(-1, 0, 0, 0), -5);
        Due.be("9 sort", x.answer(0, 1536, 0, 0), -5);
        Due.be("9 sort below", x.answer(0, -1, 0, 0), -5);
        Due.be("9 a below", x.answer(0, 0, -1, 0), -5);
        Due.be("9 k below", x.answer(0, 0, 0, -1), -5);
        Due.be("9 a, k at most", x.answer(0, 0, Integer.MAX_VALUE, Integer.MAX_VALUE), 0);
        // A clash of three stays one, whatever comes last.
        Due.custom(x, 3, 1, "void");
        Due.custom(x, 3, 1, "holds");
        Due.custom(x, 3, 1, "void");
        Due.be("9 a clash of three", x.answer(3, 0, 0, 0), -2);
        Due.custom(x, 3, 2, "holds");
        Due.be("9 a greater rank ends it", x.answer(3, 0, 0, 0), 1);
    }

    private static void answerKnown() {
        OneCode x = new OneCode();
        x.days(10);
        Due.rule(x, "void", 0, 1, 0, 5, 0);
        Due.be("9 not known on 9", x.answer(0, 0, 20, 9), -3);
        Due.be("9 known on 10", x.answer(0, 0, 20, 10), 0);
        Due.be("9 as of 4", x.answer(0, 0, 4, 10), -3);
        Due.be("9 as of 5", x.answer(0, 0, 5, 10), 0);
        x.days(10);
        x.strike(0, 15);
        Due.be("9 struck, known on 19", x.answer(0, 0, 15, 19), 0);
        Due.be("9 struck, known on 20", x.answer(0, 0, 15, 20), -3);
        Due.be("9 ahead of the strike", x.answer(0, 0, 14, 20), 0);
    }

    private static void answerSworn() {
        OneCode x = new OneCode();
        Due.rule(x, "void", 0, 2, 0, 0, 1);
        Due.be("9 one witness is no witness", x.answer(0, 0, 0, 0), -3);
        Due.rule(x, "holds", 0, 2, 0, 0, 3);
        x.days(4);
        x.fall(1);
        x.days(4);
        x.fall(1);
        Due.be("9 one stands", x.answer(0, 0, 0, 8), -3);
        Due.be("9 known on 7 two stand", x.answer(0, 0, 0, 7), 1);
        Due.be("9 known on 4", x.answer(0, 0, 0, 4), 1);
        Due.be("9 as of does not matter", x.answer(0, 0, 3999, 7), 1);
        Due.be("9 witnesses stand", x.ruleOf(1, 6), 1);
    }

    private static void answerOfTheCode() {
        OneCode x = new OneCode();
        Due.line(x, 0, "to 1");
        Due.rule(x, "to 2", 5, 5, 9, 0, 0);
        Due.be("9 lines alone", x.answer(5, 0, 0, 0), 201);
        x.strike(0, 0);
        Due.be("9 no lines", x.answer(5, 0, 0, 0), -3);
        Due.rule(x, "void", 0, 2, 2, 0, 2);
        Due.rule(x, "holds", 0, 3, 3, 0, 0);
        Due.rule(x, "to 0", 0, 1, 1, 0, 0);
        Due.be("9 all kinds of a custom", x.answer(0, 0, 0, 0), 1);
    }

    private static void why() {
        OneCode x = new OneCode();
        Due.custom(x, 0, 1, "void");
        Due.custom(x, 0, 2, "void if age=0");
        Due.custom(x, 0, 2, "holds if age=1");
        Due.custom(x, 0, 2, "void if age<2");
        Due.line(x, 0, "void");
        Due.be("10 first", x.why(0, Due.sort(0, 0, 0, 0, 0, 0), 0, 0, 0), 1);
        Due.be("10 second", x.why(0, Due.sort(0, 0, 0, 0, 0, 0), 0, 0, 1), 3);
        Due.be("10 no third", x.why(0, Due.sort(0, 0, 0, 0, 0, 0), 0, 0, 2), -1);
        Due.be("10 none below", x.why(0, Due.sort(0, 0, 0, 0, 0, 0), 0, 0, -1), -1);
        Due.be("10 of a clash", x.why(0, Due.sort(0, 1, 0, 0, 0, 0), 0, 0, 0), 2);
        Due.be("10 of a clash, second", x.why(0, Due.sort(0, 1, 0, 0, 0, 0), 0, 0, 1), 3);
        Due.be("10 of a clash, third", x.why(0, Due.sort(0, 1, 0, 0, 0, 0), 0, 0, 2), -1);
        Due.be("10 the lesser rank", x.why(0, Due.sort(0, 2, 0, 0, 0, 0), 0, 0, 0), 0);
        Due.be("10 of a gap", x.why(1, 0, 0, 0, 0), -1);
        Due.be("10 of the code", x.why(5, 0, 0, 0, 0), 4);
        Due.be("10 body", x.why(6, 0, 0, 0, 0), -5);
        Due.be("10 sort", x.why(0, 1536, 0, 0, 0), -5);
        Due.be("10 a below", x.why(0, 0, -1, 0, 0), -5);
        Due.be("10 k below", x.why(0, 0, 0, -1, 0), -5);
    }
}
