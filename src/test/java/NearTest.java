/** Promises 34 to 36: ways to write lines, and the writing that keeps most. */
public final class NearTest {
    public static void main(String[] args) {
        way();
        wayRefuses();
        keeps();
        keepsRefuses();
        keepsAsOfNow();
        near();
        nearOfMany();
        Due.end();
    }

    private static void way() {
        OneCode x = new OneCode();
        for (int slot = 0; slot < 5; slot++) {
            for (int i = 0; i < 3; i++) {
                Due.be("34 way", Due.way(x, slot, slot == 0 ? 0 : 9, "void if age=" + i), i);
            }
            Due.feed(x, "x");
            Due.be("34 full ahead of a fault", x.way(slot, 0), -4);
            Due.be("34 bad ahead of full", x.way(slot, 10), -2);
            Due.be("34 full: the tape stays", x.count(9), 1);
            Due.be("34 emptied", x.rule(0, 1, 0, 0, 0), -10);
            Due.be("34 ways", x.count(10), 3 * slot + 3);
        }
        Due.be("34 ways are no rules", x.count(0), 0);
    }

    private static void wayRefuses() {
        OneCode x = new OneCode();
        Due.feed(x, "void");
        Due.be("34 slot", x.way(5, 99), -1);
        Due.be("34 slot below", x.way(-1, 0), -1);
        Due.be("34 rank", x.way(0, 10), -2);
        Due.be("34 rank below", x.way(0, -1), -2);
        Due.be("34 the tape stays", x.count(9), 4);
        Due.be("34 no way came", x.count(10), 0);
        Due.feed(x, " if");
        Due.be("34 a fault", x.way(0, 0), -17);
        Due.be("34 a fault empties the tape", x.count(9), 0);
        Due.be("34 a fault is no way", x.count(10), 0);
        Due.be("34 the first", Due.way(x, 0, 0, "void"), 0);
        Due.be("34 the tape is empty", x.count(9), 0);
        Due.be("34 an empty tape", x.way(0, 0), -10);
    }

    private static OneCode customs() {
        OneCode x = new OneCode();
        Due.custom(x, 0, 0, "void if what<2");
        Due.custom(x, 1, 0, "holds if what<3");
        Due.custom(x, 1, 0, "void if what=0");
        x.district(0, 10);
        x.district(1, 7);
        x.district(1, 1);
        return x;
    }

    private static void keeps() {
        OneCode x = customs();
        Due.be("35 nothing written", x.keeps(0), 0);
        Due.way(x, 1, 1, "void");
        Due.way(x, 1, 2, "holds");
        Due.way(x, 1, 1, "to 3");
        Due.way(x, 3, 1, "holds if what>0");
        Due.be("35 a clash is never kept", x.keeps(0), 384 * 10);
        Due.be("35 by the greater rank", x.keeps(4), 384 * 8 * 2);
        Due.be("35 another end", x.keeps(8), 0);
        Due.line(x, 2, "to 3 if what=1");
        Due.line(x, 0, "void if what=1");
        Due.be("35 beside a line in force", x.keeps(4), 384 * 8);
        Due.be("35 a line of greater rank", x.keeps(0), 384 * 10);
        // A gap is never kept, though the custom has one there too.
        OneCode y = customs();
        Due.way(y, 0, 0, "void if age=9");
        Due.be("35 a gap is never kept", y.keeps(0), 0);
        OneCode z = customs();
        Due.line(z, 0, "void");
        Due.be("35 lines alone", z.keeps(0), 768 * 10);
        z.carried(0, 0);
        Due.be("35 all districts, carried or not", z.keeps(0), 768 * 10);
    }

    private static void keepsRefuses() {
        OneCode x = customs();
        int[] none = {-1, 1, 4, 16, 64, 256, 1024, 1 << 20, Integer.MIN_VALUE, Integer.MAX_VALUE};
        for (int n : none) {
            Due.be("35 none such " + n, x.keeps(n), -5);
        }
        Due.way(x, 4, 0, "void");
        Due.way(x, 4, 0, "holds");
        Due.be("35 the first", x.keeps(0), 768 * 10);
        Due.be("35 the second", x.keeps(256), 768 * 8);
        Due.be("35 no third", x.keeps(512), -5);
        Due.be("35 beyond all slots", x.keeps(1024), -5);
        Due.be("35 another slot", x.keeps(257), -5);
    }

    private static void keepsAsOfNow() {
        OneCode x = customs();
        Due.rule(x, "holds", 0, 1, 1, 5, 0);
        Due.rule(x, "to 3", 5, 4, 1, 7, 0);
        Due.rule(x, "to 2", 5, 5, 9, 0, 0);
        Due.way(x, 0, 1, "void");
        Due.be("35 ahead", x.keeps(0), 768 * 10);
        x.days(5);
        Due.be("35 the custom now", x.keeps(0), 0);
        x.strike(3, 5);
        Due.be("35 struck", x.keeps(0), 768 * 10);
        x.days(2);
        Due.be("35 the line now", x.keeps(0), 0);
    }

    private static void near() {
        OneCode x = customs();
        Due.be("36 what", x.near(2), -1);
        Due.be("36 what below", x.near(-1), -1);
        Due.be("36 nothing to choose", x.near(0), 0);
        Due.be("36 nothing kept", x.near(1), 0);
        Due.way(x, 1, 1, "holds");
        Due.way(x, 1, 1, "void");
        Due.way(x, 1, 1, "void if what<2");
        Due.be("36 the first of several", x.near(0), 4);
        Due.be("36 how much", x.near(1), 768 * 10);
        Due.way(x, 4, 2, "to 3 if what=1");
        Due.way(x, 4, 2, "holds if what=2");
        Due.way(x, 4, 2, "holds if what=2");
        Due.be("36 of two slots", x.near(0), 4 + 256);
        Due.be("36 how much of two", x.near(1), 768 * 10 + 384 * 8);
    }

    /** All writings keep the same but for one slot: the lesser way in slot 0 counts first. */
    private static void nearOfMany() {
        OneCode x = customs();
        for (int slot = 0; slot < 5; slot++) {
            for (int i = 0; i < 3; i++) {
                Due.way(x, slot, 0, "void if age=9");
            }
        }
        Due.be("36 243 alike", x.near(0), 0);
        OneCode z = customs();
        Due.way(z, 0, 3, "void if what=3");
        Due.way(z, 0, 3, "void if what=1");
        Due.way(z, 0, 3, "void if what=1 and age<2");
        Due.way(z, 1, 2, "to 1 if what=3");
        Due.way(z, 3, 1, "holds");
        Due.way(z, 4, 0, "holds");
        Due.way(z, 4, 2, "void if what=0");
        // Void where what is 0 or 1, holds where it is 2; custom 1 clashes where it is 0.
        Due.be("36 of four slots", z.near(0), 1 + 256);
        Due.be("36 of four slots, how much", z.near(1), 384 * (10 + 10 + 8));
        OneCode y = customs();
        // Either slot may say void, at the cost of what the other says.
        Due.way(y, 0, 1, "to 3");
        Due.way(y, 0, 2, "void");
        Due.way(y, 2, 2, "void");
        Due.way(y, 2, 0, "to 3");
        Due.be("36 the lesser way in slot 0", y.near(0), 0);
        Due.be("36 kept alike", y.keeps(1 + 16), y.near(1));
        Due.be("36 and that is", y.near(1), 768 * 10);
    }
}
