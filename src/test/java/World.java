/** An object with some of everything, so that a call that changes what it should not is seen. */
final class World {
    /** The SORT that items 0 .. 5 of SHEET 0 tell; item 6 tells the END 203. */
    static final int LAID = Due.sort(1, 2, 0, 3, 1, 2);
    static final int NOW = 20;

    private World() {
    }

    static OneCode rich() {
        OneCode x = new OneCode();
        writeRules(x);
        x.district(0, 10);
        x.district(1, 7);
        x.district(0, 3);
        x.days(NOW);
        x.carried(1, 25);
        x.carried(2, 20);
        x.strike(2, 30);
        x.fall(1);
        x.deed(0, 0);
        x.deed(1, 1);
        x.deed(2, 1535);
        hearCases(x);
        bringPersons(x);
        Due.way(x, 0, 5, "void if oath=1");
        Due.way(x, 0, 5, "to 1 if kids>0");
        Due.way(x, 3, 0, "holds");
        layTable(x);
        x.teach(0, 0, 4);
        x.teach(0, 1, 10);
        x.teach(1, 0, 2);
        x.teach(1, 1, 9);
        x.teach(2, 2, 0);
        laySheets(x);
        x.act(7, 2, 4);
        Due.feed(x, "void if age");
        return x;
    }

    /** The same with THE TAPE empty, for texts of one's own. */
    static OneCode untaped() {
        OneCode x = rich();
        Due.be("a faulty text empties the tape", x.rule(0, 1, 0, 0, 0), -21);
        return x;
    }

    private static void writeRules(OneCode x) {
        Due.custom(x, 0, 3, "to 1 if kids>0");
        Due.rule(x, "holds if goods>1", 0, 2, 5, 10, 3);
        Due.rule(x, "owed 30 unless age<2", 0, 3, 2, 0, 0);
        Due.custom(x, 1, 1, "void");
        Due.custom(x, 1, 1, "holds if house=2");
        Due.line(x, 4, "void if oath=1");
        Due.line(x, 4, "to 3 if oath=0");
        Due.rule(x, "owed 5 if what=2", 5, 5, 1, 0, 0);
    }

    private static void hearCases(OneCode x) {
        x.heard(0, Due.sort(1, 0, 0, 0, 1, 0), 1);
        x.heard(0, 0, 200);
        x.heard(1, 7, 1);
        x.heard(1, 7, 0);
        x.heard(2, 1535, 199);
    }

    /** Number 3 is QUARRELLED (a CLASH), 5 too (a GAP), 6 is dead; the others live. */
    private static void bringPersons(OneCode x) {
        x.person(0, -1, 3, 1, 0, 350);
        x.person(0, 0, 1, 1, 0, 50);
        x.person(0, 0, 1, 0, 1, 101);
        x.person(1, 0, 0, 2, 1, 7);
        x.person(0, 1, 0, 0, 0, 3);
        x.person(0, 0, 0, 0, 0, 9);
        x.person(1, 1, 0, 0, 0, 40);
        x.die(3);
        x.die(5);
        x.die(6);
    }

    private static void layTable(OneCode x) {
        x.line(5);
        x.line(3);
        x.line(2);
        x.section();
        x.section();
        x.section();
        x.like(0, 0, -5);
        x.like(0, 1, 3);
        x.like(1, 1, -4);
        x.like(1, 2, 3);
        x.like(2, 0, -1);
        x.like(2, 2, -9);
    }

    private static void laySheets(OneCode x) {
        x.sheet(0, 1, 9);
        int[] items = {1, 2, 0, 3, 1, 2, 203};
        for (int i = 0; i < items.length; i++) {
            x.cell(0, i, items[i]);
        }
        x.sheet(1, 1, 7);
        x.cell(1, 2, 1);
    }
}
