/**
 * Long runs of thrown calls, answered by OneCode and by the Model alike; in some all that can be full
 * is filled first.
 */
public final class ModelTest {
    private static final int RUNS = 350;
    private static final int FULL_RUNS = 40;
    // No more calls than the document speaks of; behind the steps the rest of them only asks.
    private static final int CALLS = 512;
    private static final int LAST_STEP = 400;
    private static OneCode x;
    private static Model m;
    private static Dice d;
    private static int run;
    private static int calls;

    public static void main(String[] args) {
        for (run = 0; run < RUNS && Due.wrong() < 20; run++) {
            x = new OneCode();
            m = new Model();
            d = new Dice(run);
            int topic = run % 7;
            calls = 0;
            while (calls < LAST_STEP) {
                step(d.chance(75) ? topic : d.below(7));
            }
            while (calls < CALLS) {
                ask();
            }
        }
        for (; run < RUNS + FULL_RUNS && Due.wrong() < 20; run++) {
            x = new OneCode();
            m = new Model();
            d = new Dice(run);
            calls = 0;
            fill(d.from(0, 12));
            int[] most = {80, 8, 100, 30};
            for (int what = 0; what < most.length; what++) {
                be("count when full", x.count(what), most[what], what);
            }
            while (calls < CALLS - 45) {
                step(d.below(7));
            }
            Due.hold("no more calls than 512: " + calls, calls <= CALLS);
        }
        Due.end();
    }

    /** To the brim, but for THE TAPE, which is there to be read; some RULES have a TEST. */
    private static void fill(int tested) {
        for (int i = 0; i < 8; i++) {
            int c = d.from(0, 4);
            int p = d.from(1, 99);
            be("district", x.district(c, p), m.district(c, p), c, p);
        }
        fillRules(tested);
        for (int i = 0; i < 60; i++) {
            int k = d.below(8);
            int s = anySort();
            be("deed", x.deed(k, Math.max(s, 0) % 1536), m.deed(k, Math.max(s, 0) % 1536), k, s);
            if (i % 10 == 0) {
                someDays();
            }
        }
        for (int i = 0; i < 100; i++) {
            int k = d.below(8);
            int s = d.below(1536);
            int e = d.chance(95) ? s % 4 > 1 ? 200 : 1 : 0;
            be("heard", x.heard(k, s, e), m.heard(k, s, e), k, s, e);
        }
        for (int i = 0; i < 30; i++) {
            int k = d.below(8);
            int parent = d.from(-1, Math.min(i - 1, 4));
            int coins = d.below(9999);
            be("person", x.person(k, parent, 1, 1, 1, coins), m.person(k, parent, 1, 1, 1, coins), k, parent, coins);
        }
        for (int i = 0; i < 9; i++) {
            be("line", x.line(i), m.line(i), i);
            be("section", x.section(), m.section());
        }
        fillWays();
    }

    private static void fillRules(int tested) {
        for (int i = 0; i < 80; i++) {
            boolean ofCode = d.chance(40);
            int kind = ofCode ? d.from(4, 5) : d.from(1, 3);
            int body = ofCode ? 5 : d.from(0, 4);
            int rank = d.from(0, 9);
            int witnesses = kind == 2 ? d.from(1, 20) : 0;
            feedWhole(i < tested ? "to " + d.below(4) + " if " + d.test().replace("not ", "") : "to " + d.below(4));
            be("rule", x.rule(body, kind, rank, 0, witnesses), m.rule(body, kind, rank, 0, witnesses), body, kind, rank);
        }
    }

    private static void fillWays() {
        for (int i = 0; i < 15; i++) {
            int slot = i % 5;
            int rank = d.from(0, 9);
            feedWhole("to " + d.below(4));
            be("way", x.way(slot, rank), m.way(slot, rank), slot, rank);
        }
    }

    /** Four bytes a call, as few calls as can be. */
    private static void feedWhole(String text) {
        for (int i = 0; i < text.length(); i += 4) {
            int n = Math.min(4, text.length() - i);
            int number = 0;
            for (int j = 0; j < n; j++) {
                number = number << 8 | text.charAt(i + j);
            }
            be("feed", x.feed(number, n), m.feed(number, n), number, n);
        }
    }

    private static void be(String call, int got, int want, int... args) {
        calls++;
        StringBuilder text = new StringBuilder("run " + run + ": " + call + "(");
        for (int a : args) {
            text.append(a).append(' ');
        }
        Due.be(text.append(')').toString(), got, want);
    }

    private static void step(int topic) {
        if (m.districts.size() < 2 || d.chance(1)) {
            int c = d.about(0, 4);
            int p = d.about(1, 99);
            be("district", x.district(c, p), m.district(c, p), c, p);
        }
        switch (topic) {
            case 0: rules(); break;
            case 1: lands(); break;
            case 2: cases(); break;
            case 3: persons(); break;
            case 4: near(); break;
            case 5: sections(); break;
            default: sheets(); break;
        }
        if (d.chance(10)) {
            int n = d.about(0, 12);
            be("count", x.count(n), m.count(n), n);
        }
    }

    private static void feedText(String text) {
        for (int i = 0; i < text.length(); ) {
            int n = Math.min(d.from(1, 4), text.length() - i);
            int number = d.chance(20) ? d.wild() : 0;
            for (int j = 0; j < n; j++) {
                number = number << 8 | text.charAt(i + j);
            }
            be("feed", x.feed(number, n), m.feed(number, n), number, n);
            i += n;
        }
    }

    private static void writeRule(int body, int kind, String text) {
        if (m.tape.length() > 0 && d.chance(95)) {
            be("way", x.way(0, 0), m.way(0, 0));
        }
        feedText(text);
        int rank = d.chance(70) ? d.from(0, 2) : d.about(0, 9);
        int from = d.chance(70) ? d.below(m.now + 5) : d.about(0, 3999);
        int witnesses = kind == 2 ? d.chance(50) ? d.from(1, 4) : d.about(1, 20) : d.chance(97) ? 0 : 1;
        be("rule", x.rule(body, kind, rank, from, witnesses), m.rule(body, kind, rank, from, witnesses),
            body, kind, rank, from, witnesses);
    }

    private static int anyRule() {
        return d.about(0, m.rules.size() - 1);
    }

    private static int anyDistrict() {
        return d.about(0, m.districts.size() - 1);
    }

    private static int anySort() {
        return d.chance(20) ? d.below(8) : d.about(0, 1535);
    }

    private static int anyEnd() {
        int n = d.below(10);
        return n < 4 ? d.from(200, 203) : n < 6 ? d.from(0, 1) : n < 9 ? d.from(100, 199) : d.about(-4, 205);
    }

    private static void newRule() {
        if (d.chance(3)) {
            writeRule(d.about(0, 5), d.about(1, 5), d.text());
        } else if (d.chance(40)) {
            writeRule(5, d.from(4, 5), d.chance(90) ? d.text() : d.spoiled());
        } else {
            writeRule(d.from(0, d.chance(80) ? 1 : 4), d.from(1, 3), d.chance(90) ? d.text() : d.spoiled());
        }
    }

    private static void someDays() {
        int n = d.chance(95) ? d.from(1, 30) : d.about(1, 400);
        be("days", x.days(n), m.days(n), n);
    }

    private static void strikeOrFall() {
        int r = anyRule();
        if (d.chance(40)) {
            int from = d.chance(80) ? d.below(m.now + 5) : d.about(0, 3999);
            be("strike", x.strike(r, from), m.strike(r, from), r, from);
        } else {
            be("fall", x.fall(r), m.fall(r), r);
        }
    }

    private static void rules() {
        int n = d.below(100);
        if (n < 18) {
            newRule();
        } else if (n < 22) {
            someDays();
        } else if (n < 32) {
            strikeOrFall();
        } else if (n < 42) {
            int r = anyRule();
            int what = d.about(0, 7);
            be("ruleOf", x.ruleOf(r, what), m.ruleOf(r, what), r, what);
        } else if (n < 50) {
            int r = anyRule();
            int s = anySort();
            be("fits", x.fits(r, s), m.fits(r, s), r, s);
        } else if (n < 70) {
            int b = d.about(0, 5);
            int s = anySort();
            int a = d.about(0, m.now + 5);
            int k = d.about(0, m.now + 3);
            be("answer", x.answer(b, s, a, k), m.answer(b, s, a, k), b, s, a, k);
            int i = d.about(0, 2);
            be("why", x.why(b, s, a, k, i), m.why(b, s, a, k, i), b, s, a, k, i);
        } else if (n < 80) {
            int r = anyRule();
            int act = d.about(0, 2);
            int v = d.wild();
            be("act", x.act(r, act, v), m.act(r, act, v), r, act, v);
            int i = d.about(0, 10);
            be("trace", x.trace(i), m.trace(i), i);
        } else if (n < 86) {
            int r = anyRule();
            int k = d.about(0, 5);
            be("taken", x.taken(r, k), m.taken(r, k), r, k);
        } else if (n < 94) {
            moves();
        } else {
            int bytes = d.wild();
            int count = d.about(0, 4);
            be("feed", x.feed(bytes, count), m.feed(bytes, count), bytes, count);
        }
    }

    private static void moves() {
        if (m.tape.length() > 0) {
            be("way", x.way(0, 0), m.way(0, 0));
        }
        feedText(d.chance(85) ? d.text() : d.spoiled());
        int r = anyRule();
        for (int what = d.about(0, 2); what <= 2; what++) {
            be("moves", x.moves(r, what), m.moves(r, what), r, what);
            if (what < 0) {
                break;
            }
        }
    }

    private static void lands() {
        int n = d.below(100);
        if (n < 18) {
            newRule();
        } else if (n < 24) {
            someDays();
        } else if (n < 30) {
            strikeOrFall();
        } else if (n < 35) {
            int k = anyDistrict();
            int from = d.chance(80) ? m.now + d.below(40) : d.about(0, 3999);
            be("carried", x.carried(k, from), m.carried(k, from), k, from);
        } else if (n < 55) {
            int k = anyDistrict();
            int s = anySort();
            int j = d.about(0, m.now + 10);
            int f = d.about(0, Math.max(0, j));
            int known = d.about(0, m.now + 2);
            be("law", x.law(k, s, f, j, known), m.law(k, s, f, j, known), k, s, f, j, known);
        } else if (n < 65) {
            int k = anyDistrict();
            int s = anySort();
            be("deed", x.deed(k, s), m.deed(k, s), k, s);
        } else if (n < 72) {
            int e = d.about(0, m.deeds.size() - 1);
            int j = d.about(0, m.now + 3);
            int k = d.about(0, m.now);
            be("deedEnd", x.deedEnd(e, j, k), m.deedEnd(e, j, k), e, j, k);
        } else if (n < 78) {
            int k = d.chance(50) ? -1 : anyDistrict();
            int what = d.about(0, 1);
            be("lost", x.lost(k, what), m.lost(k, what), k, what);
        } else if (n < 81) {
            int r = d.about(0, 2);
            be("courts", x.courts(r), m.courts(r), r);
        } else if (n < 91) {
            int a = anyDistrict();
            int b = anyDistrict();
            int s = anySort();
            int f = d.about(0, m.now);
            be("court", x.court(a, b, s, f), m.court(a, b, s, f), a, b, s, f);
        } else if (n < 96) {
            int a = d.about(0, 5);
            int b = d.about(0, 5);
            int what = d.about(0, 2);
            be("unlike", x.unlike(a, b, what), m.unlike(a, b, what), a, b, what);
        } else {
            int b = d.about(0, 5);
            int which = d.about(0, 1);
            int what = d.about(0, 2);
            be("wrong", x.wrong(b, which, what), m.wrong(b, which, what), b, which, what);
        }
    }

    private static void cases() {
        int n = d.below(100);
        int k = anyDistrict();
        if (n < 14) {
            int s = anySort();
            int e = anyEnd();
            // Mostly as a form would have it, so that something is left.
            if (d.chance(80)) {
                e = s >= 0 && s % 4 > 1 ? 200 : 1;
            }
            be("heard", x.heard(k, s, e), m.heard(k, s, e), k, s, e);
        } else if (n < 40) {
            be("left", x.left(k), m.left(k), k);
            int i = d.about(0, 4);
            be("form", x.form(k, i), m.form(k, i), k, i);
        } else if (n < 60) {
            int what = d.about(0, 1);
            be("parts", x.parts(k, what), m.parts(k, what), k, what);
        } else if (n < 80) {
            int what = d.about(0, 1);
            be("quarrel", x.quarrel(k, what), m.quarrel(k, what), k, what);
        } else if (n < 90) {
            readCase();
        } else {
            moves();
        }
    }

    private static void readCase() {
        int k = anyDistrict();
        int sheet = d.about(0, 2);
        int sort = d.about(0, 2);
        if (d.chance(60)) {
            be("sheet", x.sheet(sheet, sort, 9), m.sheet(sheet, sort, 9), sheet, sort, 9);
            for (int i = 0; i < 6; i++) {
                int v = d.about(0, Model.SIZES[i] - 1);
                be("cell", x.cell(sheet, i, v), m.cell(sheet, i, v), sheet, i, v);
            }
            int e = anyEnd();
            be("cell", x.cell(sheet, 6, e), m.cell(sheet, 6, e), sheet, 6, e);
        }
        int i = d.chance(70) ? 0 : d.about(0, 4);
        be("read", x.read(k, sheet, sort, i), m.read(k, sheet, sort, i), k, sheet, sort, i);
    }

    private static void persons() {
        int n = d.below(100);
        int p = d.about(0, m.persons.size() - 1);
        int k = anyDistrict();
        if (n < 12) {
            newRule();
        } else if (n < 16) {
            writeRule(d.from(0, 4), 1, d.chance(60) ? d.end() : d.end() + " if what=2");
        } else if (n < 30) {
            int parent = d.chance(30) ? -1 : d.about(0, Math.min(m.persons.size() - 1, 4));
            int age = d.about(0, 3);
            int house = d.about(0, 2);
            int oath = d.about(0, 1);
            int coins = d.chance(50) ? d.below(500) : d.about(0, 9999);
            be("person", x.person(k, parent, age, house, oath, coins),
                m.person(k, parent, age, house, oath, coins), k, parent, age, house, oath, coins);
        } else if (n < 36) {
            be("goes", x.goes(p, k), m.goes(p, k), p, k);
        } else if (n < 42) {
            be("die", x.die(p), m.die(p), p);
        } else if (n < 55) {
            be("settle", x.settle(p), m.settle(p), p);
        } else if (n < 58) {
            someDays();
        } else if (n < 60) {
            be("carried", x.carried(k, m.now + 3), m.carried(k, m.now + 3), k);
        } else if (n < 85) {
            int what = d.about(0, 5);
            be("personOf", x.personOf(p, what), m.personOf(p, what), p, what);
        } else {
            int c = d.chance(40) ? -1 : k;
            be("chest", x.chest(c), m.chest(c), c);
        }
    }

    private static void near() {
        int n = d.below(100);
        if (n < 25) {
            newRule();
        } else if (n < 45) {
            if (m.tape.length() > 0 && d.chance(95)) {
                be("rule", x.rule(0, 1, 0, 0, 0), m.rule(0, 1, 0, 0, 0));
            }
            feedText(d.chance(90) ? d.text() : d.spoiled());
            int slot = run % 3 == 0 ? d.about(0, 4) : d.about(0, 1) * 2;
            int rank = d.chance(70) ? d.from(0, 2) : d.about(0, 9);
            be("way", x.way(slot, rank), m.way(slot, rank), slot, rank);
        } else if (n < 48) {
            someDays();
        } else if (n < 52) {
            strikeOrFall();
        } else if (n < 82) {
            int w = 0;
            for (int slot = 4; slot >= 0; slot--) {
                w = w * 4 + d.below(Math.max(m.ways.get(slot).size(), 1));
            }
            w = d.chance(90) ? w : d.about(0, 1023);
            be("keeps", x.keeps(w), m.keeps(w), w);
        } else if (n < 85 && m.count(10) < 9) {
            int what = d.about(0, 1);
            be("near", x.near(what), m.near(what), what);
        }
    }

    private static void sections() {
        int n = d.below(100);
        if (n < 5) {
            int c = d.chance(70) ? d.from(0, 5) : d.about(0, 99);
            be("line", x.line(c), m.line(c), c);
        } else if (n < 9) {
            be("section", x.section(), m.section());
        } else if (n < 40) {
            int s = d.about(0, m.sections.size() - 1);
            int l = d.about(0, m.lines.size() - 1);
            int v = d.chance(60) ? d.from(-9, 2) : d.about(-9, 9);
            be("like", x.like(s, l, v), m.like(s, l, v), s, l, v);
        } else if (n < 48) {
            int set = d.about(0, (1 << m.lines.size()) - 1);
            be("yes", x.yes(set), m.yes(set), set);
        } else if (n < 62) {
            int what = d.about(0, 1);
            be("least", x.least(what), m.least(what), what);
        } else if (n < 90) {
            int k = anyDistrict();
            int what = d.about(0, 2);
            int v = what == 0 ? d.about(1, 12) : what == 1 ? d.about(0, d.chance(50) ? 4 : 99) : anyDistrict();
            v = d.chance(2) ? d.wild() : v;
            be("teach", x.teach(k, what, v), m.teach(k, what, v), k, what, v);
        } else if (n < 92 && m.districts.size() < 8) {
            be("district", x.district(0, 1), m.district(0, 1));
        } else if (m.districts.size() < 8 || d.chance(10)) {
            be("waits", x.waits(), m.waits());
            int i = anyDistrict();
            be("taught", x.taught(i), m.taught(i), i);
        }
    }

    private static void sheets() {
        int n = d.below(100);
        int s = d.about(0, 2);
        int i = d.about(0, 12);
        if (n < 15) {
            int sort = d.about(-1, 2);
            int size = d.chance(80) ? d.from(7, 14) : d.about(0, 40);
            be("sheet", x.sheet(s, sort, size), m.sheet(s, sort, size), s, sort, size);
        } else if (n < 60) {
            int v = d.chance(80) ? d.below(2) : d.chance(50) ? anyEnd() : d.wild();
            be("cell", x.cell(s, i, v), m.cell(s, i, v), s, i, v);
        } else if (n < 80) {
            int t = d.about(0, 2);
            int j = d.about(0, 8);
            int size = d.about(0, 8);
            be("copy", x.copy(s, i, t, j, size), m.copy(s, i, t, j, size), s, i, t, j, size);
        } else {
            int k = anyDistrict();
            int sort = d.about(0, 2);
            be("read", x.read(k, s, sort, i), m.read(k, s, sort, i), k, s, sort, i);
            readCase();
        }
    }

    /** One of the calls that only ask. */
    private static void ask() {
        int k = anyDistrict();
        switch (d.below(12)) {
            case 0: case 1:
                int r = anyRule();
                int of = d.about(0, 7);
                be("ruleOf", x.ruleOf(r, of), m.ruleOf(r, of), r, of);
                break;
            case 2: case 3:
                int p = d.about(0, m.persons.size() - 1);
                int which = d.about(0, 5);
                be("personOf", x.personOf(p, which), m.personOf(p, which), p, which);
                break;
            case 4:
                be("chest", x.chest(k), m.chest(k), k);
                break;
            case 5:
                be("left", x.left(k), m.left(k), k);
                break;
            case 6:
                be("lost", x.lost(k, 0), m.lost(k, 0), k, 0);
                break;
            case 7:
                be("quarrel", x.quarrel(k, 1), m.quarrel(k, 1), k, 1);
                break;
            case 8:
                int b = d.about(0, 5);
                int clash = d.about(0, 1);
                int what = d.about(0, 2);
                be("wrong", x.wrong(b, clash, what), m.wrong(b, clash, what), b, clash, what);
                break;
            case 9:
                int one = d.about(0, 5);
                int other = d.about(0, 5);
                int tell = d.about(0, 2);
                be("unlike", x.unlike(one, other, tell), m.unlike(one, other, tell), one, other, tell);
                break;
            case 10:
                if (m.districts.size() < 8) {
                    be("waits", x.waits(), m.waits());
                }
                break;
            default:
                int n = d.about(0, 12);
                be("count", x.count(n), m.count(n), n);
        }
    }
}
