/** Promises 37 to 44: lines on the table, sections, and the row in which districts are taught. */
public final class SectionsTest {
    public static void main(String[] args) {
        line();
        section();
        like();
        yes();
        least();
        leastOfSeveral();
        teach();
        teachRefuses();
        waits();
        taught();
        Due.end();
    }

    private static void line() {
        OneCode x = new OneCode();
        Due.be("37 bad", x.line(-1), -2);
        Due.be("37 bad above", x.line(100), -2);
        for (int i = 0; i < 7; i++) {
            Due.be("37 line", x.line(i == 0 ? 0 : 99), i);
        }
        Due.be("37 full", x.line(0), -4);
        Due.be("37 bad ahead of full", x.line(100), -2);
        Due.be("37 count", x.count(7), 7);
    }

    private static void section() {
        OneCode x = new OneCode();
        for (int i = 0; i < 9; i++) {
            Due.be("38 section", x.section(), i);
        }
        Due.be("38 full", x.section(), -4);
        Due.be("38 count", x.count(8), 9);
        x.line(1);
        Due.be("38 likes nothing", x.like(8, 0, 0), 0);
    }

    private static void like() {
        OneCode x = new OneCode();
        x.section();
        x.line(1);
        Due.be("39 section", x.like(1, 0, 0), -100);
        Due.be("39 section below", x.like(-1, 0, 0), -100);
        Due.be("39 line", x.like(0, 1, 0), -100);
        Due.be("39 line below", x.like(0, -1, 0), -100);
        Due.be("39 above", x.like(0, 0, 10), -100);
        Due.be("39 below", x.like(0, 0, -10), -100);
        Due.be("39 first", x.like(0, 0, 9), 0);
        Due.be("39 then", x.like(0, 0, -9), 9);
        Due.be("39 at last", x.like(0, 0, 0), -9);
    }

    private static void yes() {
        OneCode x = new OneCode();
        Due.be("40 no section", x.yes(0), 0);
        x.section();
        x.section();
        Due.be("40 no line: 0 is enough", x.yes(0), 2);
        Due.be("40 a bit of none", x.yes(1), -1);
        x.line(0);
        x.line(0);
        x.like(0, 0, 5);
        x.like(0, 1, -6);
        x.like(1, 0, -2);
        x.like(1, 1, 2);
        Due.be("40 all kept", x.yes(0), 1);
        Due.be("40 the first yielded", x.yes(1), 1);
        Due.be("40 the second yielded", x.yes(2), 1);
        Due.be("40 both yielded", x.yes(3), 2);
        Due.be("40 a third", x.yes(4), -1);
        Due.be("40 a third with others", x.yes(7), -1);
        Due.be("40 below", x.yes(-1), -1);
        Due.be("40 far below", x.yes(Integer.MIN_VALUE), -1);
        Due.be("40 far above", x.yes(1 << 30), -1);
    }

    private static void least() {
        OneCode x = new OneCode();
        Due.be("41 no section carries", x.least(0), -3);
        Due.be("41 what ahead of state", x.least(2), -1);
        Due.be("41 what below", x.least(-1), -1);
        x.section();
        Due.be("41 nothing to yield", x.least(0), 0);
        Due.be("41 costs nothing", x.least(1), 0);
        x.section();
        x.line(5);
        x.line(3);
        x.like(0, 0, -1);
        Due.be("41 half is not enough", x.least(0), 1);
        Due.be("41 its cost", x.least(1), 5);
        x.like(0, 1, 1);
        Due.be("41 outweighed", x.least(0), 0);
        x.section();
        x.like(2, 1, -9);
        Due.be("41 two of three", x.least(0), 0);
        x.like(1, 1, -9);
        Due.be("41 the cheaper", x.least(0), 2);
        Due.be("41 the cheaper's cost", x.least(1), 3);
    }

    private static void leastOfSeveral() {
        OneCode x = new OneCode();
        x.section();
        x.line(2);
        x.line(2);
        x.line(4);
        x.like(0, 0, -4);
        x.like(0, 1, -4);
        x.like(0, 2, -9);
        x.like(0, 2, -8);
        // Without the third -8 is left; all three cost 8.
        Due.be("41 all", x.least(0), 7);
        x.like(0, 2, 4);
        // One of the first two is enough: the least bits.
        Due.be("41 least bits", x.least(0), 1);
        x.like(0, 0, -2);
        x.like(0, 1, -2);
        x.like(0, 2, -4);
        Due.be("41 all again", x.least(0), 7);
        x.line(0);
        x.like(0, 3, 4);
        // Either both first or the third, at one cost: the fewer.
        Due.be("41 the fewest", x.least(0), 4);
        Due.be("41 the fewest's cost", x.least(1), 4);
    }

    private static OneCode lands(int n) {
        OneCode x = new OneCode();
        for (int i = 0; i < n; i++) {
            x.district(0, 1);
        }
        return x;
    }

    private static void teach() {
        OneCode x = lands(3);
        Due.be("42 months at first", x.teach(0, 0, 12), 1);
        Due.be("42 months then", x.teach(0, 0, 1), 12);
        Due.be("42 waiting at first", x.teach(1, 1, 99), 0);
        Due.be("42 waiting then", x.teach(1, 1, 0), 99);
        Due.be("42 behind none at first", x.teach(2, 2, 0), -1);
        Due.be("42 behind another", x.teach(2, 2, 1), 0);
        Due.be("42 behind none", x.teach(2, 2, -1), 1);
        Due.be("42 and again", x.teach(2, 2, -1), -1);
    }

    private static void teachRefuses() {
        OneCode x = lands(4);
        Due.be("42 district", x.teach(4, 0, 99), -1);
        Due.be("42 district below", x.teach(-1, 0, 1), -1);
        Due.be("42 what", x.teach(0, 3, 1), -1);
        Due.be("42 what below", x.teach(0, -1, 1), -1);
        Due.be("42 no month", x.teach(0, 0, 0), -2);
        Due.be("42 months above", x.teach(0, 0, 13), -2);
        Due.be("42 waiting below", x.teach(0, 1, -1), -2);
        Due.be("42 waiting above", x.teach(0, 1, 100), -2);
        Due.be("42 behind no district", x.teach(0, 2, 4), -2);
        Due.be("42 behind below", x.teach(0, 2, -2), -2);
        Due.be("42 behind itself", x.teach(0, 2, 0), -2);
        x.teach(1, 2, 0);
        x.teach(2, 2, 1);
        x.teach(3, 2, 2);
        Due.be("42 round by three", x.teach(0, 2, 3), -2);
        Due.be("42 round by one", x.teach(0, 2, 1), -2);
        Due.be("42 not round", x.teach(3, 2, 0), 2);
        Due.be("42 round no more", x.teach(2, 2, 3), 1);
        Due.be("42 round by two", x.teach(3, 2, 2), -2);
        Due.be("42 as it was", x.teach(3, 2, 0), 0);
        Due.be("42 months stay", x.teach(0, 0, 1), 1);
    }

    private static void waits() {
        Due.be("43 no district", new OneCode().waits(), -1);
        OneCode x = lands(3);
        Due.be("43 nothing waits", x.waits(), 0);
        x.teach(0, 0, 5);
        x.teach(0, 1, 6);
        x.teach(1, 0, 2);
        x.teach(1, 1, 3);
        x.teach(2, 0, 4);
        x.teach(2, 1, 8);
        // 2 (8 * 4), then 1 (3 * 6), then 0 (6 * 11).
        Due.be("43 least", x.waits(), 32 + 18 + 66);
        x.teach(2, 2, 0);
        // 0 (6 * 5), then 2 (8 * 9), then 1 (3 * 11).
        Due.be("43 behind another", x.waits(), 30 + 72 + 33);
        OneCode most = lands(8);
        for (int d = 0; d < 8; d++) {
            most.teach(d, 0, 12);
            most.teach(d, 1, 99);
        }
        Due.be("43 most", most.waits(), 99 * 12 * 36);
    }

    private static void taught() {
        Due.be("44 no district", new OneCode().taught(0), -1);
        OneCode x = lands(4);
        for (int i = 0; i < 4; i++) {
            Due.be("44 all alike: the lesser first", x.taught(i), i);
        }
        Due.be("44 none", x.taught(4), -1);
        Due.be("44 none below", x.taught(-1), -1);
        x.teach(3, 1, 1);
        x.teach(1, 2, 3);
        x.teach(2, 1, 1);
        x.teach(2, 0, 2);
        int[] row = {3, 2, 0, 1};
        for (int i = 0; i < 4; i++) {
            Due.be("44 place " + i, x.taught(i), row[i]);
        }
        x.teach(0, 0, 1);
        x.teach(2, 2, 1);
        // 3 first, then 1, then 2, and 0, that nobody waits for, last.
        int[] next = {3, 1, 2, 0};
        for (int i = 0; i < 4; i++) {
            Due.be("44 then place " + i, x.taught(i), next[i]);
        }
    }
}
