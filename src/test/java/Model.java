import java.util.ArrayList;
import java.util.Arrays;
import java.util.List;
import java.util.regex.Matcher;
import java.util.regex.Pattern;

/**
 * The document once more, in the plainest and slowest way, to be compared with OneCode: texts by a
 * regular expression, acts by classes with super calls, sheets by Java's own arrays, and all that
 * is least or most by going through everything.
 */
final class Model {
    static final String[] NAMES = {"what", "age", "house", "kids", "oath", "goods"};
    static final int[] SIZES = {4, 4, 3, 4, 2, 4};
    static final String TEST = "(not )?(what|age|house|kids|oath|goods)[<=>][0-9]";
    static final Pattern TEXT = Pattern.compile("(void|holds|owed [0-9][0-9]?|to [0-3])"
        + "( (if|unless) " + TEST + "(( and | or )" + TEST + "){0,4})?");

    static int[] fields(int sort) {
        int[] f = new int[6];
        int rest = sort;
        for (int i = 5; i >= 0; i--) {
            f[i] = rest % SIZES[i];
            rest /= SIZES[i];
        }
        return f;
    }

    static int number(int[] f) {
        int sort = 0;
        for (int i = 0; i < 6; i++) {
            sort = sort * SIZES[i] + f[i];
        }
        return sort;
    }

    static boolean testHolds(String test, int[] f) {
        boolean not = test.startsWith("not ");
        String t = not ? test.substring(4) : test;
        int field = Arrays.asList(NAMES).indexOf(t.substring(0, t.length() - 2));
        int n = t.charAt(t.length() - 1) - '0';
        char sign = t.charAt(t.length() - 2);
        boolean so = sign == '<' ? f[field] < n : sign == '=' ? f[field] == n : f[field] > n;
        return so != not;
    }

    static final class Words {
        final String text;
        final boolean[] fit = new boolean[1536];

        Words(String text) {
            this.text = text;
            for (int s = 0; s < 1536; s++) {
                fit[s] = work(fields(s));
            }
        }

        String condition() {
            int i = text.indexOf(" if ");
            int u = text.indexOf(" unless ");
            return i >= 0 ? text.substring(i + 4) : u >= 0 ? text.substring(u + 8) : "";
        }

        boolean work(int[] f) {
            String c = condition();
            if (c.isEmpty()) {
                return true;
            }
            boolean any = false;
            for (String run : c.split(" or ")) {
                boolean all = true;
                for (String test : run.split(" and ")) {
                    all &= testHolds(test, f);
                }
                any |= all;
            }
            return any != text.contains(" unless ");
        }

        int end() {
            String[] w = text.split(" ");
            switch (w[0]) {
                case "void": return 0;
                case "holds": return 1;
                case "owed": return 100 + Integer.parseInt(w[1]);
                default: return 200 + Integer.parseInt(w[1]);
            }
        }

        int tests() {
            String c = condition();
            return c.isEmpty() ? 0 : c.split(" and | or ").length;
        }
    }

    /** -1, or the FAULT. */
    static int fault(String text) {
        for (int n = 0; n <= text.length(); n++) {
            Matcher m = TEXT.matcher(text.substring(0, n));
            boolean whole = m.matches();
            if (!whole && !m.hitEnd()) {
                return n - 1;
            }
            if (n == text.length()) {
                return whole ? -1 : n;
            }
        }
        return -1;
    }

    // ---- acts, with real classes

    class KRule {
        int m, r;
        int holds(int x) { ran(10); return x + r; }
        int hangs(int x) { ran(11); return holds(x) * 2; }
        int saves(int x) { ran(12); return hangs(x) ^ holds(x + m); }
    }

    class KWritten extends KRule {
        @Override int hangs(int x) { ran(20); return super.hangs(x) - r; }
    }

    class KSworn extends KRule {
        @Override int holds(int x) { ran(30); return super.holds(x) * 3; }
    }

    class KShown extends KRule {
        @Override int saves(int x) { ran(40); return super.saves(x + 1); }
    }

    class KLine extends KWritten {
        @Override int holds(int x) { ran(50); return super.holds(x) ^ m; }
    }

    class KSaved extends KLine {
        @Override int saves(int x) { ran(60); return super.saves(x) + 4; }
        @Override int hangs(int x) { ran(61); return super.hangs(x - m); }
    }

    final List<Integer> ran = new ArrayList<>();

    void ran(int body) {
        ran.add(body);
    }

    // ---- state

    static final class R {
        Words words;
        int kind, body, rank, from, known, witnesses;
        int struck = -1, struckKnown;
        List<Integer> fell = new ArrayList<>();
        KRule kin;
    }

    static final class D {
        int custom, people, carried = -1, chest, months = 1, waiting, behind = -1;
    }

    static final class P {
        int district, parent, age, house, oath, coins, state, diedAs = -1;
    }

    int now;
    int courts = 2;
    String tape = "";
    final List<R> rules = new ArrayList<>();
    final List<D> districts = new ArrayList<>();
    final List<int[]> deeds = new ArrayList<>();
    final List<int[]> cases = new ArrayList<>();
    final List<P> persons = new ArrayList<>();
    final List<List<Words>> ways = new ArrayList<>();
    final List<List<Integer>> wayRanks = new ArrayList<>();
    final List<Integer> lines = new ArrayList<>();
    final List<int[]> sections = new ArrayList<>();
    final Object[] sheets = new Object[3];

    Model() {
        for (int i = 0; i < 5; i++) {
            ways.add(new ArrayList<>());
            wayRanks.add(new ArrayList<>());
        }
    }

    static boolean in(int v, int a, int b) {
        return a <= v && v <= b;
    }

    static boolean isEnd(int e) {
        return e == 0 || e == 1 || in(e, 100, 199) || in(e, 200, 203);
    }

    boolean isRule(int r) { return in(r, 0, rules.size() - 1); }

    boolean isDistrict(int d) { return in(d, 0, districts.size() - 1); }

    boolean isPerson(int p) { return in(p, 0, persons.size() - 1); }

    static boolean isSort(int s) { return in(s, 0, 1535); }

    // ---- days, texts, rules

    int days(int n) {
        if (!in(n, 1, 400) || now + n > 3999) return -2;
        return now += n;
    }

    int feed(int bytes, int n) {
        if (!in(n, 0, 4)) return -2;
        if (tape.length() + n > 90) return -4;
        for (int i = n; i > 0; i--) {
            tape += (char) ((bytes >> (i - 1) * 8) & 0xFF);
        }
        return tape.length();
    }

    int rule(int body, int kind, int rank, int from, int witnesses) {
        if (!in(body, 0, 5) || !in(kind, 1, 5)) return -1;
        if (body == 5 ? kind < 4 : kind > 3) return -2;
        if (!in(rank, 0, 9) || !in(from, 0, 3999)) return -2;
        if (kind == 2 && !in(witnesses, 1, 20)) return -2;
        if (kind != 2 && witnesses != 0) return -2;
        if (rules.size() == 80) return -4;
        int fault = fault(tape);
        String text = tape;
        tape = "";
        if (fault >= 0) return -10 - fault;
        R r = new R();
        r.words = new Words(text);
        r.kind = kind;
        r.body = body;
        r.rank = rank;
        r.from = from;
        r.known = now;
        r.witnesses = witnesses;
        r.kin = kind == 1 ? new KWritten() : kind == 2 ? new KSworn() : kind == 3 ? new KShown()
            : kind == 4 ? new KLine() : new KSaved();
        r.kin.m = rules.size();
        r.kin.r = rank;
        rules.add(r);
        return rules.size() - 1;
    }

    int strike(int rule, int from) {
        if (!isRule(rule)) return -1;
        if (!in(from, 0, 3999)) return -2;
        R r = rules.get(rule);
        if (r.struck >= 0) return -3;
        r.struck = from;
        r.struckKnown = now;
        return 1;
    }

    int fall(int rule) {
        if (!isRule(rule)) return -1;
        R r = rules.get(rule);
        if (r.kind != 2 || r.fell.size() == r.witnesses) return -3;
        r.fell.add(now);
        return r.witnesses - r.fell.size();
    }

    int ruleOf(int rule, int what) {
        if (!isRule(rule) || !in(what, 0, 7)) return -5;
        R r = rules.get(rule);
        return new int[] {r.kind, r.body, r.rank, r.from, r.words.end(), r.words.tests(),
            r.kind == 2 ? r.witnesses - r.fell.size() : 0, r.struck}[what];
    }

    int fits(int rule, int sort) {
        if (!isRule(rule) || !isSort(sort)) return -1;
        return rules.get(rule).words.fit[sort] ? 1 : 0;
    }

    boolean inForce(R r, int a, int k) {
        if (r.known > k || r.from > a) return false;
        if (r.struck >= 0 && r.struckKnown <= k && r.struck <= a) return false;
        if (r.kind == 2) {
            long fell = r.fell.stream().filter(day -> day <= k).count();
            return r.witnesses - fell >= 2;
        }
        return true;
    }

    /** The RULES that give the ANSWER, by kinds from..to of a body. */
    List<Integer> givers(int body, int low, int high, int sort, int a, int k, int rule, Words instead) {
        int most = -1;
        List<Integer> best = new ArrayList<>();
        for (int i = 0; i < rules.size(); i++) {
            R r = rules.get(i);
            Words w = i == rule ? instead : r.words;
            if (r.body == body && in(r.kind, low, high) && inForce(r, a, k) && w.fit[sort]) {
                if (r.rank > most) {
                    most = r.rank;
                    best.clear();
                }
                if (r.rank == most) best.add(i);
            }
        }
        return best;
    }

    int endOf(List<Integer> givers, int rule, Words instead) {
        int end = -3;
        for (int g : givers) {
            int e = (g == rule ? instead : rules.get(g).words).end();
            end = end == -3 || end == e ? e : -2;
        }
        return end;
    }

    int ofBody(int body, int sort, int a, int k) {
        return endOf(givers(body, 1, 4, sort, a, k, -1, null), -1, null);
    }

    int ofSaved(int sort, int a, int k) {
        return endOf(givers(5, 5, 5, sort, a, k, -1, null), -1, null);
    }

    int answer(int body, int sort, int a, int k) {
        if (!in(body, 0, 5) || !isSort(sort) || a < 0 || k < 0) return -5;
        return ofBody(body, sort, a, k);
    }

    int why(int body, int sort, int a, int k, int i) {
        if (!in(body, 0, 5) || !isSort(sort) || a < 0 || k < 0) return -5;
        List<Integer> g = givers(body, 1, 4, sort, a, k, -1, null);
        return in(i, 0, g.size() - 1) ? g.get(i) : -1;
    }

    // ---- districts, courts

    int district(int custom, int people) {
        if (!in(custom, 0, 4)) return -1;
        if (!in(people, 1, 99)) return -2;
        if (districts.size() == 8) return -4;
        D d = new D();
        d.custom = custom;
        d.people = people;
        districts.add(d);
        return districts.size() - 1;
    }

    int carried(int district, int from) {
        if (!isDistrict(district)) return -1;
        if (!in(from, now, 3999)) return -2;
        if (districts.get(district).carried >= 0) return -3;
        districts.get(district).carried = from;
        return 1;
    }

    boolean code(int district, int day) {
        int from = districts.get(district).carried;
        return from >= 0 && day >= from;
    }

    int lawThere(int district, int sort, int f, int j, int k) {
        int custom = districts.get(district).custom;
        if (!code(district, j)) return ofBody(custom, sort, f, k);
        if (code(district, f)) return ofBody(5, sort, f, k);
        int saved = ofSaved(sort, j, k);
        return saved == -3 ? ofBody(custom, sort, f, k) : saved;
    }

    int law(int district, int sort, int f, int j, int k) {
        if (!isDistrict(district) || !isSort(sort) || f < 0 || f > j || k < 0) return -5;
        return lawThere(district, sort, f, j, k);
    }

    int deed(int district, int sort) {
        if (!isDistrict(district)) return -1;
        if (!isSort(sort)) return -2;
        if (deeds.size() == 60) return -4;
        deeds.add(new int[] {district, sort, now});
        return deeds.size() - 1;
    }

    int deedEnd(int deed, int j, int k) {
        if (!in(deed, 0, deeds.size() - 1) || k < 0) return -5;
        int[] d = deeds.get(deed);
        return j < d[2] ? -5 : lawThere(d[0], d[1], d[2], j, k);
    }

    int lost(int district, int what) {
        if (district != -1 && !isDistrict(district) || !in(what, 0, 1)) return -5;
        List<Integer> lost = new ArrayList<>();
        for (int i = 0; i < deeds.size(); i++) {
            int[] d = deeds.get(i);
            if ((district == -1 || d[0] == district)
                && lawThere(d[0], d[1], d[2], now, now) != lawThere(d[0], d[1], d[2], d[2], d[2])) {
                lost.add(i);
            }
        }
        return what == 0 ? lost.size() : lost.isEmpty() ? -1 : lost.get(0);
    }

    int courts(int r) {
        if (!in(r, 0, 2)) return -2;
        int was = courts;
        courts = r;
        return was;
    }

    int court(int first, int second, int sort, int f) {
        if (!isDistrict(first) || !isDistrict(second) || !isSort(sort) || !in(f, 0, now)) return -5;
        int a = lawThere(first, sort, f, now, now);
        int b = lawThere(second, sort, f, now, now);
        return a == b ? a : courts == 0 ? a : courts == 1 ? b : -4;
    }

    static boolean same(int s, int t, int set) {
        int[] a = fields(s);
        int[] b = fields(t);
        for (int f = 0; f < 6; f++) {
            if ((set >> f & 1) != 0 && a[f] != b[f]) return false;
        }
        return true;
    }

    static boolean shows(boolean[] such, int sort, int set) {
        for (int s = 0; s < 1536; s++) {
            if (!such[s] && same(s, sort, set)) return false;
        }
        return true;
    }

    static int tell(boolean[] such, int what) {
        int n = 0;
        int first = -1;
        for (int s = 1535; s >= 0; s--) {
            if (such[s]) {
                n++;
                first = s;
            }
        }
        if (what == 0) return n;
        if (what == 1 || first < 0) return first;
        for (int size = 0; size <= 6; size++) {
            for (int set = 0; set < 64; set++) {
                if (Integer.bitCount(set) == size && shows(such, first, set)) return set;
            }
        }
        throw new IllegalStateException();
    }

    int unlike(int a, int b, int what) {
        if (!in(a, 0, 5) || !in(b, 0, 5) || !in(what, 0, 2)) return -5;
        boolean[] such = new boolean[1536];
        for (int s = 0; s < 1536; s++) {
            such[s] = ofBody(a, s, now, now) != ofBody(b, s, now, now);
        }
        return tell(such, what);
    }

    int wrong(int body, int which, int what) {
        if (!in(body, 0, 5) || !in(which, 0, 1) || !in(what, 0, 2)) return -5;
        boolean[] such = new boolean[1536];
        for (int s = 0; s < 1536; s++) {
            such[s] = ofBody(body, s, now, now) == (which == 0 ? -2 : -3);
        }
        return tell(such, what);
    }

    // ---- cases

    int heard(int district, int sort, int end) {
        if (!isDistrict(district)) return -1;
        if (!isSort(sort) || !isEnd(end)) return -2;
        if (cases.size() == 100) return -4;
        cases.add(new int[] {district, sort, end});
        return cases.size() - 1;
    }

    int read(int district, int sheet, int sort, int i) {
        if (!isDistrict(district) || !in(sheet, 0, 2) || !in(sort, 0, 2)) return -1;
        int[] got = new int[7];
        try {
            Object row = sheets[sheet];
            if (sort == 0) {
                byte[] b = (byte[]) row;
                for (int n = 0; n < 7; n++) got[n] = b[Math.addExact(i, n)];
            } else if (sort == 1) {
                short[] b = (short[]) row;
                for (int n = 0; n < 7; n++) got[n] = b[Math.addExact(i, n)];
            } else {
                int[] b = (int[]) row;
                for (int n = 0; n < 7; n++) got[n] = b[Math.addExact(i, n)];
            }
        } catch (ClassCastException e) {
            return -13;
        } catch (NullPointerException e) {
            return -11;
        } catch (IndexOutOfBoundsException | ArithmeticException e) {
            return -12;
        }
        for (int f = 0; f < 6; f++) {
            if (!in(got[f], 0, SIZES[f] - 1)) return -2;
        }
        return heard(district, number(Arrays.copyOf(got, 6)), got[6]);
    }

    static boolean formHolds(int form, int sort) {
        int v = fields(sort)[form / 12];
        int n = form % 4;
        int sign = form % 12 / 4;
        return sign == 0 ? v < n : sign == 1 ? v == n : v > n;
    }

    List<Integer> forms(int district) {
        List<Integer> all = new ArrayList<>();
        for (int form = 0; form < 72; form++) {
            List<Integer> held = new ArrayList<>();
            List<Integer> not = new ArrayList<>();
            for (int[] c : cases) {
                if (c[0] == district) (formHolds(form, c[1]) ? held : not).add(c[2]);
            }
            if (held.stream().distinct().count() <= 1 && not.stream().distinct().count() <= 1) {
                all.add(form);
            }
        }
        return all;
    }

    int left(int district) {
        return isDistrict(district) ? forms(district).size() : -1;
    }

    int form(int district, int i) {
        if (!isDistrict(district)) return -1;
        List<Integer> f = forms(district);
        return in(i, 0, f.size() - 1) ? f.get(i) : -1;
    }

    int parts(int district, int what) {
        if (!isDistrict(district) || !in(what, 0, 1)) return -1;
        List<Integer> left = forms(district);
        if (left.isEmpty()) return -1;
        int best = -1;
        int bestSort = -1;
        for (int s = 0; s < 1536; s++) {
            int held = 0;
            for (int form : left) {
                if (formHolds(form, s)) held++;
            }
            int lesser = Math.min(held, left.size() - held);
            if (lesser > best) {
                best = lesser;
                bestSort = s;
            }
        }
        return what == 0 ? bestSort : best;
    }

    int quarrel(int district, int what) {
        if (!isDistrict(district) || !in(what, 0, 1)) return -1;
        for (int a = 0; a < cases.size(); a++) {
            for (int b = a + 1; b < cases.size(); b++) {
                int[] x = cases.get(a);
                int[] y = cases.get(b);
                if (x[0] == district && y[0] == district && x[1] == y[1] && x[2] != y[2]) {
                    return what == 0 ? a : b;
                }
            }
        }
        return -1;
    }

    int moves(int rule, int what) {
        if (!isRule(rule) || !in(what, 0, 2)) return -1;
        int fault = fault(tape);
        if (fault >= 0) return -10 - fault;
        Words w = new Words(tape);
        R r = rules.get(rule);
        int low = r.body == 5 ? r.kind : 1;
        int high = r.body == 5 ? r.kind : 3;
        boolean[] moved = new boolean[1536];
        int n = 0;
        for (int s = 0; s < 1536; s++) {
            int before = endOf(givers(r.body, low, high, s, now, now, -1, null), -1, null);
            int after = endOf(givers(r.body, low, high, s, now, now, rule, w), rule, w);
            moved[s] = before != after;
            if (moved[s]) n++;
        }
        int people = 0;
        int some = 0;
        for (int d = 0; d < districts.size(); d++) {
            boolean under = r.body == 5 ? code(d, now) : districts.get(d).custom == r.body && !code(d, now);
            if (under) {
                people += districts.get(d).people * n;
                for (int[] c : cases) {
                    if (c[0] == d && moved[c[1]]) some++;
                }
            }
        }
        return what == 0 ? n : what == 1 ? people : some;
    }

    // ---- persons

    int person(int district, int parent, int age, int house, int oath, int coins) {
        if (!isDistrict(district) || parent != -1 && !isPerson(parent)) return -1;
        if (!in(age, 0, 3) || !in(house, 0, 2) || !in(oath, 0, 1) || !in(coins, 0, 9999)) return -2;
        if (persons.size() == 30) return -4;
        P p = new P();
        p.district = district;
        p.parent = parent;
        p.age = age;
        p.house = house;
        p.oath = oath;
        p.coins = coins;
        persons.add(p);
        return persons.size() - 1;
    }

    int goes(int person, int district) {
        if (!isPerson(person) || !isDistrict(district)) return -1;
        P p = persons.get(person);
        if (p.state != 0) return -3;
        int was = p.district;
        p.district = district;
        return was;
    }

    List<P> children(int person) {
        List<P> all = new ArrayList<>();
        for (P p : persons) {
            if (p.parent == person && p.state == 0) all.add(p);
        }
        return all;
    }

    void even(List<P> heirs, int sum, D chest) {
        if (heirs.isEmpty()) {
            chest.chest += sum;
            return;
        }
        for (int i = 0; i < heirs.size(); i++) {
            heirs.get(i).coins += sum / heirs.size() + (i < sum % heirs.size() ? 1 : 0);
        }
    }

    int part(int person) {
        P p = persons.get(person);
        int end = lawThere(p.district, p.diedAs, now, now, now);
        if (end < 0) return end;
        D chest = districts.get(p.district);
        p.state = 1;
        int all = p.coins;
        p.coins = 0;
        List<P> heirs = children(person);
        if (end == 0) {
            chest.chest += all;
        } else if (end == 1 || end == 201) {
            even(heirs, all, chest);
        } else if (end < 200) {
            int owed = all * (end - 100) / 100;
            chest.chest += owed;
            even(heirs, all - owed, chest);
        } else if (end == 200) {
            even(heirs.subList(0, Math.min(1, heirs.size())), all, chest);
        } else if (end == 202) {
            boolean lives = p.parent >= 0 && persons.get(p.parent).state == 0;
            even(lives ? List.of(persons.get(p.parent)) : List.of(), all, chest);
        } else if (heirs.size() < 2) {
            even(heirs, all, chest);
        } else {
            heirs.get(0).coins += all / 2;
            even(heirs.subList(1, heirs.size()), all - all / 2, chest);
        }
        return end;
    }

    int die(int person) {
        if (!isPerson(person)) return -1;
        P p = persons.get(person);
        if (p.state != 0) return -3;
        p.diedAs = number(new int[] {2, p.age, p.house, Math.min(3, children(person).size()), p.oath,
            Math.min(3, p.coins / 100)});
        p.state = 2;
        return part(person);
    }

    int settle(int person) {
        if (!isPerson(person)) return -1;
        return persons.get(person).state == 2 ? part(person) : -3;
    }

    int personOf(int person, int what) {
        if (!isPerson(person) || !in(what, 0, 5)) return -5;
        P p = persons.get(person);
        return new int[] {p.district, p.parent, p.coins, p.state, p.diedAs, children(person).size()}[what];
    }

    int chest(int district) {
        if (district == -1) {
            return persons.stream().mapToInt(p -> p.coins).sum() + districts.stream().mapToInt(d -> d.chest).sum();
        }
        return isDistrict(district) ? districts.get(district).chest : -5;
    }

    // ---- near

    int way(int slot, int rank) {
        if (!in(slot, 0, 4)) return -1;
        if (!in(rank, 0, 9)) return -2;
        if (ways.get(slot).size() == 3) return -4;
        int fault = fault(tape);
        String text = tape;
        tape = "";
        if (fault >= 0) return -10 - fault;
        ways.get(slot).add(new Words(text));
        wayRanks.get(slot).add(rank);
        return ways.get(slot).size() - 1;
    }

    int keeps(int writing) {
        if (!in(writing, 0, 1023)) return -5;
        List<Words> words = new ArrayList<>();
        List<Integer> ranks = new ArrayList<>();
        for (int slot = 0; slot < 5; slot++) {
            int digit = writing / (int) Math.pow(4, slot) % 4;
            if (ways.get(slot).isEmpty() ? digit > 0 : digit >= ways.get(slot).size()) return -5;
            if (!ways.get(slot).isEmpty()) {
                words.add(ways.get(slot).get(digit));
                ranks.add(wayRanks.get(slot).get(digit));
            }
        }
        for (R r : rules) {
            if (r.kind == 4 && inForce(r, now, now)) {
                words.add(r.words);
                ranks.add(r.rank);
            }
        }
        int sum = 0;
        for (int s = 0; s < 1536; s++) {
            int most = -1;
            int end = -3;
            for (int i = 0; i < words.size(); i++) {
                if (words.get(i).fit[s] && ranks.get(i) >= most) {
                    int e = words.get(i).end();
                    end = ranks.get(i) > most || e == end ? e : -2;
                    most = ranks.get(i);
                }
            }
            for (D d : districts) {
                if (end >= 0 && end == ofBody(d.custom, s, now, now)) sum += d.people;
            }
        }
        return sum;
    }

    int near(int what) {
        if (!in(what, 0, 1)) return -1;
        int best = -1;
        int bestKept = -1;
        // From SLOT 0's WAY on: that one is the first to count.
        for (int place = 0; place < 1024; place++) {
            int writing = 0;
            for (int slot = 0; slot < 5; slot++) {
                writing += (place >> 2 * (4 - slot) & 3) << 2 * slot;
            }
            int kept = keeps(writing);
            if (kept > bestKept) {
                bestKept = kept;
                best = writing;
            }
        }
        return what == 0 ? best : bestKept;
    }

    // ---- sections, lands

    int line(int cost) {
        if (!in(cost, 0, 99)) return -2;
        if (lines.size() == 7) return -4;
        lines.add(cost);
        return lines.size() - 1;
    }

    int section() {
        if (sections.size() == 9) return -4;
        sections.add(new int[7]);
        return sections.size() - 1;
    }

    int like(int section, int line, int v) {
        if (!in(section, 0, sections.size() - 1) || !in(line, 0, lines.size() - 1) || !in(v, -9, 9)) return -100;
        int was = sections.get(section)[line];
        sections.get(section)[line] = v;
        return was;
    }

    int yes(int yielded) {
        if (!in(yielded, 0, (1 << lines.size()) - 1)) return -1;
        int n = 0;
        for (int[] s : sections) {
            int sum = 0;
            for (int l = 0; l < lines.size(); l++) {
                if ((yielded & 1 << l) == 0) sum += s[l];
            }
            if (sum >= 0) n++;
        }
        return n;
    }

    int least(int what) {
        if (!in(what, 0, 1)) return -1;
        List<int[]> all = new ArrayList<>();
        for (int set = 0; set < 1 << lines.size(); set++) {
            int cost = 0;
            for (int l = 0; l < lines.size(); l++) {
                if ((set & 1 << l) != 0) cost += lines.get(l);
            }
            if (yes(set) * 2 > sections.size()) all.add(new int[] {cost, Integer.bitCount(set), set});
        }
        all.sort(Arrays::compare);
        return all.isEmpty() ? -3 : what == 0 ? all.get(0)[2] : all.get(0)[0];
    }

    boolean goesRound() {
        for (int d = 0; d < districts.size(); d++) {
            int e = d;
            for (int i = 0; i < 20 && e >= 0; i++) {
                e = districts.get(e).behind;
            }
            if (e >= 0) return true;
        }
        return false;
    }

    int teach(int district, int what, int v) {
        if (!isDistrict(district) || !in(what, 0, 2)) return -1;
        D d = districts.get(district);
        int was = what == 0 ? d.months : what == 1 ? d.waiting : d.behind;
        if (what == 0) {
            if (!in(v, 1, 12)) return -2;
            d.months = v;
        } else if (what == 1) {
            if (!in(v, 0, 99)) return -2;
            d.waiting = v;
        } else {
            if (v != -1 && !isDistrict(v)) return -2;
            d.behind = v;
            if (goesRound()) {
                d.behind = was;
                return -2;
            }
        }
        return was;
    }

    int bestWait;
    List<Integer> bestRow;

    /** All ROWS, the lesser districts first. */
    void rows(List<Integer> row, int time, int waited) {
        if (row.size() == districts.size()) {
            if (waited < bestWait) {
                bestWait = waited;
                bestRow = new ArrayList<>(row);
            }
            return;
        }
        for (int d = 0; d < districts.size(); d++) {
            D it = districts.get(d);
            if (!row.contains(d) && (it.behind < 0 || row.contains(it.behind))) {
                row.add(d);
                rows(row, time + it.months, waited + (time + it.months) * it.waiting);
                row.remove(row.size() - 1);
            }
        }
    }

    int waits() {
        if (districts.isEmpty()) return -1;
        bestWait = Integer.MAX_VALUE;
        rows(new ArrayList<>(), 0, 0);
        return bestWait;
    }

    int taught(int i) {
        if (!in(i, 0, districts.size() - 1)) return -1;
        waits();
        return bestRow.get(i);
    }

    // ---- acts, sheets

    int act(int rule, int act, int x) {
        ran.clear();
        if (!isRule(rule) || !in(act, 0, 2)) return 0;
        KRule k = rules.get(rule).kin;
        return act == 0 ? k.holds(x) : act == 1 ? k.hangs(x) : k.saves(x);
    }

    int trace(int i) {
        return in(i, 0, Math.min(20, ran.size()) - 1) ? ran.get(i) : -1;
    }

    int taken(int rule, int k) {
        if (!in(k, 0, 5)) return -2;
        if (!isRule(rule)) return -11;
        Class<?>[] kinds = {KRule.class, KWritten.class, KSworn.class, KShown.class, KLine.class, KSaved.class};
        return kinds[k].isInstance(rules.get(rule).kin) ? rules.get(rule).kind : -13;
    }

    int count(int what) {
        if (!in(what, 0, 12)) return -2;
        int living = 0;
        int quarrelled = 0;
        for (P p : persons) {
            if (p.state == 0) living++;
            if (p.state == 2) quarrelled++;
        }
        int all = ways.stream().mapToInt(List::size).sum();
        return new int[] {rules.size(), districts.size(), cases.size(), persons.size(), living, quarrelled, now,
            lines.size(), sections.size(), tape.length(), all, ran.size(), deeds.size()}[what];
    }

    int sheet(int sheet, int sort, int n) {
        if (!in(sheet, 0, 2) || !in(sort, -1, 2)) return -2;
        if (sort == -1) {
            sheets[sheet] = null;
            return 1;
        }
        if (n > 40) return -2;
        if (n < 0) return -14;
        sheets[sheet] = sort == 0 ? new byte[n] : sort == 1 ? new short[n] : (Object) new int[n];
        return 1;
    }

    int cell(int sheet, int i, int v) {
        if (!in(sheet, 0, 2)) return -2;
        Object row = sheets[sheet];
        if (row == null) return -11;
        try {
            if (row instanceof byte[]) ((byte[]) row)[i] = (byte) v;
            else if (row instanceof short[]) ((short[]) row)[i] = (short) v;
            else ((int[]) row)[i] = v;
        } catch (IndexOutOfBoundsException e) {
            return -12;
        }
        return 1;
    }

    @SuppressWarnings("SuspiciousSystemArraycopy")
    int copy(int sheet, int i, int other, int j, int n) {
        if (!in(sheet, 0, 2) || !in(other, 0, 2)) return -2;
        try {
            System.arraycopy(sheets[sheet], i, sheets[other], j, n);
        } catch (NullPointerException e) {
            return -11;
        } catch (ArrayStoreException e) {
            return -13;
        } catch (IndexOutOfBoundsException e) {
            return -12;
        }
        return n;
    }
}
