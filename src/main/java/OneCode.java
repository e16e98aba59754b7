import java.util.Arrays;

/**
 * One code for many customs. The words in capitals are those of the document's Terms.
 *
 * <p>A SORT of facts is one number; a set of SORTS is a row of bits. What is refused is looked for
 * ahead of any change, in the order in which the document names it.
 */
public final class OneCode {
    public static final int NONE = -1, BAD = -2, STATE = -3, FULL = -4;

    private static final int NO_SUCH = -5;
    private static final int FAULTY = -10;
    private static final int MISSING = -11;
    private static final int NO_ITEM = -12;
    private static final int OTHER_SORT = -13;
    private static final int BELOW_NONE = -14;
    private static final int NO_LIKING = -100;

    private static final int CLASH = -2;
    private static final int GAP = -3;
    private static final int SAYS_NOTHING = -4;
    private static final int VOID = 0;
    private static final int HOLDS = 1;
    private static final int OWED = 100;
    private static final int GOES = 200;
    private static final int LAST_END = 203;

    private static final int RULE = 0;
    private static final int WRITTEN = 1;
    private static final int SWORN = 2;
    private static final int SHOWN = 3;
    private static final int LINE = 4;
    private static final int SAVED = 5;

    private static final int CUSTOMS = 5;
    private static final int CODE = 5;
    // An ANSWER comes from one GROUP of RULES: a custom's, the CODE's LINES or its SAVED ones.
    private static final int LINES = 5;
    private static final int SAVED_ONES = 6;
    private static final int GROUPS = 7;

    private static final int LAST_DAY = 3999;
    private static final int MOST_BYTES = 90;
    private static final int SORTS = 1536;
    private static final int FIELDS = 6;
    private static final int DIED = 2;
    private static final int SOUND = -1;

    private final int[] tape = new int[MOST_BYTES];
    private final Rules rules = new Rules();
    private final Districts districts = new Districts(rules);
    private final Cases cases = new Cases();
    private final Persons persons = new Persons(districts);
    private final Writings writings = new Writings(rules, districts);
    private final Table table = new Table();
    private final Lessons lessons = new Lessons();
    private final Sheets sheets = new Sheets();
    private final SortSet found = new SortSet();
    private Text draft = new Text(tape);
    private int tapeLength;
    private int now;
    private int courtRule = 2;

    public OneCode() {
    }

    // ---- days, texts, rules

    public int days(int n) {
        if (!within(n, 1, 400) || now + n > LAST_DAY) {
            return BAD;
        }
        now += n;
        return now;
    }

    public int feed(int bytes, int n) {
        if (!within(n, 0, 4)) {
            return BAD;
        }
        if (tapeLength + n > MOST_BYTES) {
            return FULL;
        }
        for (int i = n - 1; i >= 0; i--) {
            tape[tapeLength] = (bytes >>> (8 * i)) & 255;
            tapeLength++;
        }
        return tapeLength;
    }

    public int rule(int body, int kind, int rank, int from, int witnesses) {
        if (!within(body, 0, CODE) || !within(kind, WRITTEN, SAVED)) {
            return NONE;
        }
        boolean ofCode = kind >= LINE;
        if (ofCode != (body == CODE) || !within(rank, 0, 9) || !within(from, 0, LAST_DAY)) {
            return BAD;
        }
        if (kind == SWORN ? !within(witnesses, 1, Rule.MOST_WITNESSES) : witnesses != 0) {
            return BAD;
        }
        if (rules.isFull()) {
            return FULL;
        }
        int fault = draft.readTape(tapeLength);
        tapeLength = 0;
        if (fault != SOUND) {
            return FAULTY - fault;
        }
        int number = rules.add(new Rule(draft, kind, body, rank, from, now, witnesses));
        draft = new Text(tape);
        return number;
    }

    public int strike(int rule, int from) {
        if (!rules.has(rule)) {
            return NONE;
        }
        if (!within(from, 0, LAST_DAY)) {
            return BAD;
        }
        return rules.at(rule).struckOnce(from, now) ? 1 : STATE;
    }

    public int fall(int rule) {
        if (!rules.has(rule)) {
            return NONE;
        }
        Rule sworn = rules.at(rule);
        if (sworn.standing() == 0) {
            return STATE;
        }
        sworn.loseWitness(now);
        return sworn.standing();
    }

    public int ruleOf(int rule, int what) {
        if (!rules.has(rule)) {
            return NO_SUCH;
        }
        Rule asked = rules.at(rule);
        switch (what) {
            case 0: return asked.kind;
            case 1: return asked.body;
            case 2: return asked.rank;
            case 3: return asked.from;
            case 4: return asked.text.end;
            case 5: return asked.text.tests;
            case 6: return asked.standing();
            case 7: return asked.struckFrom;
            default: return NO_SUCH;
        }
    }

    public int fits(int rule, int sort) {
        if (!rules.has(rule) || !isSort(sort)) {
            return NONE;
        }
        return rules.at(rule).text.fitting.has(sort) ? 1 : 0;
    }

    public int answer(int body, int sort, int a, int k) {
        if (!within(body, 0, CODE) || !isSort(sort) || a < 0 || k < 0) {
            return NO_SUCH;
        }
        return rules.answerOf(body, sort, a, k);
    }

    public int why(int body, int sort, int a, int k, int i) {
        if (!within(body, 0, CODE) || !isSort(sort) || a < 0 || k < 0) {
            return NO_SUCH;
        }
        return rules.giver(body, sort, a, k, i);
    }

    // ---- districts, courts

    public int district(int custom, int people) {
        if (!within(custom, 0, CUSTOMS - 1)) {
            return NONE;
        }
        if (!within(people, 1, 99)) {
            return BAD;
        }
        return districts.isFull() ? FULL : districts.add(custom, people);
    }

    public int carried(int district, int from) {
        if (!districts.has(district)) {
            return NONE;
        }
        if (!within(from, now, LAST_DAY)) {
            return BAD;
        }
        if (districts.codeFrom[district] >= 0) {
            return STATE;
        }
        districts.codeFrom[district] = from;
        return 1;
    }

    public int law(int district, int sort, int f, int j, int k) {
        if (!districts.has(district) || !isSort(sort) || f < 0 || f > j || k < 0) {
            return NO_SUCH;
        }
        return districts.lawOf(district, sort, f, j, k);
    }

    public int deed(int district, int sort) {
        if (!districts.has(district)) {
            return NONE;
        }
        if (!isSort(sort)) {
            return BAD;
        }
        return districts.isFullOfDeeds() ? FULL : districts.addDeed(district, sort, now);
    }

    public int deedEnd(int deed, int j, int k) {
        if (!districts.hasDeed(deed) || j < districts.deedDay[deed] || k < 0) {
            return NO_SUCH;
        }
        int where = districts.deedDistrict[deed];
        return districts.lawOf(where, districts.deedSort[deed], districts.deedDay[deed], j, k);
    }

    public int lost(int district, int what) {
        if (district != -1 && !districts.has(district) || !within(what, 0, 1)) {
            return NO_SUCH;
        }
        int sum = 0;
        int first = -1;
        for (int i = districts.deeds - 1; i >= 0; i--) {
            boolean asked = district == -1 || districts.deedDistrict[i] == district;
            if (asked && districts.isLost(i, now)) {
                sum++;
                first = i;
            }
        }
        return what == 0 ? sum : first;
    }

    public int courts(int r) {
        if (!within(r, 0, 2)) {
            return BAD;
        }
        int was = courtRule;
        courtRule = r;
        return was;
    }

    public int court(int first, int second, int sort, int f) {
        if (!districts.has(first) || !districts.has(second) || !isSort(sort) || !within(f, 0, now)) {
            return NO_SUCH;
        }
        int one = districts.lawOf(first, sort, f, now, now);
        int other = districts.lawOf(second, sort, f, now, now);
        if (one == other || courtRule == 0) {
            return one;
        }
        return courtRule == 1 ? other : SAYS_NOTHING;
    }

    public int unlike(int a, int b, int what) {
        if (!within(a, 0, CODE) || !within(b, 0, CODE) || !within(what, 0, 2)) {
            return NO_SUCH;
        }
        rules.findUnlike(found, a, b, now);
        return tellOf(found, what);
    }

    public int wrong(int body, int which, int what) {
        if (!within(body, 0, CODE) || !within(which, 0, 1) || !within(what, 0, 2)) {
            return NO_SUCH;
        }
        rules.findAnswered(found, body, which == 0 ? CLASH : GAP, now);
        return tellOf(found, what);
    }

    // ---- cases

    public int heard(int district, int sort, int end) {
        if (!districts.has(district)) {
            return NONE;
        }
        if (!isSort(sort) || !isEnd(end)) {
            return BAD;
        }
        return cases.isFull() ? FULL : cases.add(district, sort, end);
    }

    public int read(int district, int sheet, int sort, int i) {
        if (!districts.has(district) || !sheets.has(sheet) || !sheets.isSort(sort)) {
            return NONE;
        }
        if (sheets.isMissing(sheet)) {
            return MISSING;
        }
        if (sheets.sorts[sheet] != sort) {
            return OTHER_SORT;
        }
        if (!sheets.spans(sheet, i, FIELDS + 1)) {
            return NO_ITEM;
        }
        int facts = sheets.factsFrom(sheet, i);
        return heard(district, facts, sheets.item(sheet, i + FIELDS));
    }

    public int left(int district) {
        return districts.has(district) ? cases.formsLeft(district) : NONE;
    }

    public int form(int district, int i) {
        return districts.has(district) ? cases.formLeft(district, i) : NONE;
    }

    public int parts(int district, int what) {
        if (!districts.has(district) || !within(what, 0, 1) || cases.formsLeft(district) == 0) {
            return NONE;
        }
        int sort = cases.bestParting(district);
        return what == 0 ? sort : cases.lesserPart(sort);
    }

    public int quarrel(int district, int what) {
        if (!districts.has(district) || !within(what, 0, 1)) {
            return NONE;
        }
        int first = cases.firstInQuarrel(district);
        return what == 0 || first < 0 ? first : cases.rival(first);
    }

    public int moves(int rule, int what) {
        if (!rules.has(rule) || !within(what, 0, 2)) {
            return NONE;
        }
        int fault = draft.readTape(tapeLength);
        if (fault != SOUND) {
            return FAULTY - fault;
        }
        int body = rules.at(rule).body;
        rules.findMoved(found, rule, draft, now);
        switch (what) {
            case 0: return found.size();
            case 1: return found.size() * districts.peopleUnder(body, now);
            default: return casesMoved(body);
        }
    }

    // ---- persons

    public int person(int district, int parent, int age, int house, int oath, int coins) {
        if (!districts.has(district) || parent != -1 && !persons.has(parent)) {
            return NONE;
        }
        if (!within(age, 0, 3) || !within(house, 0, 2) || !within(oath, 0, 1) || !within(coins, 0, 9999)) {
            return BAD;
        }
        return persons.isFull() ? FULL : persons.add(district, parent, age, house, oath, coins);
    }

    public int goes(int person, int district) {
        if (!persons.has(person) || !districts.has(district)) {
            return NONE;
        }
        if (!persons.lives(person)) {
            return STATE;
        }
        int was = persons.district[person];
        persons.district[person] = district;
        return was;
    }

    public int die(int person) {
        if (!persons.has(person)) {
            return NONE;
        }
        if (!persons.lives(person)) {
            return STATE;
        }
        persons.bury(person);
        return persons.endQuarrel(person, now);
    }

    public int settle(int person) {
        if (!persons.has(person)) {
            return NONE;
        }
        return persons.isQuarrelled(person) ? persons.endQuarrel(person, now) : STATE;
    }

    public int personOf(int person, int what) {
        if (!persons.has(person)) {
            return NO_SUCH;
        }
        switch (what) {
            case 0: return persons.district[person];
            case 1: return persons.parent[person];
            case 2: return persons.coins[person];
            case 3: return persons.state[person];
            case 4: return persons.diedAs[person];
            case 5: return persons.livingChildren(person, Persons.NOBODY);
            default: return NO_SUCH;
        }
    }

    public int chest(int district) {
        if (district == -1) {
            return persons.allCoins() + districts.allChests();
        }
        return districts.has(district) ? districts.chests[district] : NO_SUCH;
    }

    // ---- near

    public int way(int slot, int rank) {
        if (!writings.hasSlot(slot)) {
            return NONE;
        }
        if (!within(rank, 0, 9)) {
            return BAD;
        }
        if (writings.isFull(slot)) {
            return FULL;
        }
        int fault = draft.readTape(tapeLength);
        tapeLength = 0;
        if (fault != SOUND) {
            return FAULTY - fault;
        }
        int number = writings.add(slot, draft, rank);
        draft = new Text(tape);
        return number;
    }

    public int keeps(int writing) {
        return writings.isWriting(writing) ? writings.keptBy(writing, now) : NO_SUCH;
    }

    public int near(int what) {
        if (!within(what, 0, 1)) {
            return NONE;
        }
        int place = writings.placeOfBest(now);
        return what == 0 ? writings.writingAt(place) : writings.keptAt(place);
    }

    // ---- sections, lands

    public int line(int cost) {
        if (!within(cost, 0, 99)) {
            return BAD;
        }
        return table.isFullOfLines() ? FULL : table.addLine(cost);
    }

    public int section() {
        return table.isFullOfSections() ? FULL : table.addSection();
    }

    public int like(int section, int line, int v) {
        if (!within(section, 0, table.sections - 1) || !within(line, 0, table.lines - 1) || !within(v, -9, 9)) {
            return NO_LIKING;
        }
        int was = table.likings[section][line];
        table.likings[section][line] = v;
        return was;
    }

    public int yes(int yielded) {
        return table.isSet(yielded) ? table.sectionsFor(yielded) : NONE;
    }

    public int least(int what) {
        if (!within(what, 0, 1)) {
            return NONE;
        }
        int set = table.leastYielding();
        if (set < 0) {
            return STATE;
        }
        return what == 0 ? set : table.costOf(set);
    }

    public int teach(int district, int what, int v) {
        if (!districts.has(district)) {
            return NONE;
        }
        switch (what) {
            case 0: return within(v, 1, 12) ? swap(lessons.months, district, v) : BAD;
            case 1: return within(v, 0, 99) ? swap(lessons.waiting, district, v) : BAD;
            case 2:
                boolean told = v == -1 || districts.has(v) && !lessons.goesRound(district, v);
                return told ? swap(lessons.behind, district, v) : BAD;
            default: return NONE;
        }
    }

    public int waits() {
        return districts.size == 0 ? NONE : lessons.leastWaiting(districts.size);
    }

    public int taught(int i) {
        return within(i, 0, districts.size - 1) ? lessons.taughtAt(i, districts.size) : NONE;
    }

    // ---- acts, sheets

    public int act(int rule, int act, int x) {
        rules.clearTrace();
        if (!rules.has(rule)) {
            return 0;
        }
        switch (act) {
            case 0: return rules.runHolds(rules.at(rule), rule, x);
            case 1: return rules.runHangs(rules.at(rule), rule, x);
            case 2: return rules.runSaves(rules.at(rule), rule, x);
            default: return 0;
        }
    }

    public int trace(int i) {
        return rules.bodyRun(i);
    }

    public int taken(int rule, int k) {
        if (!within(k, RULE, SAVED)) {
            return BAD;
        }
        if (!rules.has(rule)) {
            return MISSING;
        }
        int kind = rules.at(rule).kind;
        return isUnder(kind, k) ? kind : OTHER_SORT;
    }

    public int count(int what) {
        switch (what) {
            case 0: return rules.size;
            case 1: return districts.size;
            case 2: return cases.size;
            case 3: return persons.size;
            case 4: return persons.inState(Persons.LIVING);
            case 5: return persons.inState(Persons.QUARRELLED);
            case 6: return now;
            case 7: return table.lines;
            case 8: return table.sections;
            case 9: return tapeLength;
            case 10: return writings.allWays();
            case 11: return rules.ran;
            case 12: return districts.deeds;
            default: return BAD;
        }
    }

    public int sheet(int sheet, int sort, int n) {
        if (!sheets.has(sheet) || sort != Sheets.NO_SORT && !sheets.isSort(sort)) {
            return BAD;
        }
        if (sort == Sheets.NO_SORT) {
            sheets.remove(sheet);
            return 1;
        }
        if (n > Sheets.MOST_ITEMS) {
            return BAD;
        }
        if (n < 0) {
            return BELOW_NONE;
        }
        sheets.lay(sheet, sort, n);
        return 1;
    }

    public int cell(int sheet, int i, int v) {
        if (!sheets.has(sheet)) {
            return BAD;
        }
        if (sheets.isMissing(sheet)) {
            return MISSING;
        }
        if (!sheets.spans(sheet, i, 1)) {
            return NO_ITEM;
        }
        sheets.put(sheet, i, v);
        return 1;
    }

    public int copy(int sheet, int i, int other, int j, int n) {
        if (!sheets.has(sheet) || !sheets.has(other)) {
            return BAD;
        }
        if (sheets.isMissing(sheet) || sheets.isMissing(other)) {
            return MISSING;
        }
        if (sheets.sorts[sheet] != sheets.sorts[other]) {
            return OTHER_SORT;
        }
        if (!sheets.spans(sheet, i, n) || !sheets.spans(other, j, n)) {
            return NO_ITEM;
        }
        System.arraycopy(sheets.items[sheet], i, sheets.items[other], j, n);
        return n;
    }

    private int casesMoved(int body) {
        int sum = 0;
        for (int i = 0; i < cases.size; i++) {
            if (found.has(cases.sorts[i]) && districts.isUnder(cases.districts[i], body, now)) {
                sum++;
            }
        }
        return sum;
    }

    private static int tellOf(SortSet set, int what) {
        switch (what) {
            case 0: return set.size();
            case 1: return set.lowest();
            default: return set.fieldsThatShow();
        }
    }

    private static int swap(int[] row, int i, int v) {
        if (i < 0 || i >= row.length) {
            return NONE;
        }
        int was = row[i];
        row[i] = v;
        return was;
    }

    private static boolean within(int v, int low, int high) {
        return v >= low && v <= high;
    }

    private static boolean isSort(int sort) {
        return within(sort, 0, SORTS - 1);
    }

    private static boolean isEnd(int end) {
        return end == VOID || end == HOLDS || within(end, OWED, LAST_END);
    }

    private static boolean isUnder(int kind, int above) {
        switch (above) {
            case RULE: return true;
            case WRITTEN: return kind == WRITTEN || kind >= LINE;
            case LINE: return kind >= LINE;
            default: return kind == above;
        }
    }

    private static int sizeOf(int field) {
        switch (field) {
            case 2: return 3;
            case 4: return 2;
            default: return 4;
        }
    }

    private static int fieldOf(int sort, int field) {
        switch (field) {
            case 0: return sort / 384;
            case 1: return sort / 96 % 4;
            case 2: return sort / 32 % 3;
            case 3: return sort / 8 % 4;
            case 4: return sort / 4 % 2;
            default: return sort % 4;
        }
    }

    private static String nameOf(int field) {
        switch (field) {
            case 0: return "what";
            case 1: return "age";
            case 2: return "house";
            case 3: return "kids";
            case 4: return "oath";
            default: return "goods";
        }
    }

    /** Whether a TEST with a sign (0 is less, 1 is equal, 2 is more) holds for a FIELD's value. */
    private static boolean isSo(int value, int sign, int number) {
        switch (sign) {
            case 0: return value < number;
            case 1: return value == number;
            default: return value > number;
        }
    }

    // A TOP is the greatest RANK met so far together with its END, in one number, so that
    // finding an ANSWER makes no object; 0 is the TOP of nothing: RANK -1 and GAP.

    private static int rankOf(int top) {
        return (top >> 8) - 1;
    }

    private static int endOf(int top) {
        return (top & 255) - 3;
    }

    private static int joined(int top, int rank, int end) {
        int ranks = (rank + 1) << 8;
        int highest = top & ~255;
        if (ranks > highest) {
            return ranks | (end + 3);
        }
        boolean clash = ranks == highest && (top & 255) != end + 3;
        return clash ? ranks | (CLASH + 3) : top;
    }

    /** A set of SORTS. */
    private static final class SortSet {
        private static final int ALL_FIELDS = 63;
        private final long[] words = new long[SORTS / 64];

        void clear() {
            Arrays.fill(words, 0L);
        }

        void put(int sort) {
            if (sort >= 0 && sort < SORTS) {
                words[sort >> 6] |= 1L << (sort & 63);
            }
        }

        boolean has(int sort) {
            return sort >= 0 && sort < SORTS && (words[sort >> 6] >>> (sort & 63) & 1L) != 0;
        }

        int size() {
            int sum = 0;
            for (int i = 0; i < words.length; i++) {
                sum += Long.bitCount(words[i]);
            }
            return sum;
        }

        int lowest() {
            for (int sort = 0; sort < SORTS; sort++) {
                if (has(sort)) {
                    return sort;
                }
            }
            return -1;
        }

        /** The fewest FIELDS of the least SORT in it that keep all SORTS outside apart from it. */
        int fieldsThatShow() {
            int shown = lowest();
            if (shown < 0) {
                return -1;
            }
            long partings = 0;
            for (int sort = 0; sort < SORTS; sort++) {
                if (!has(sort)) {
                    partings |= 1L << unlikeFields(shown, sort);
                }
            }
            int best = ALL_FIELDS;
            for (int set = 0; set < ALL_FIELDS; set++) {
                boolean better = Integer.bitCount(set) < Integer.bitCount(best);
                if (better && meetsAll(set, partings)) {
                    best = set;
                }
            }
            return best;
        }

        private static int unlikeFields(int one, int other) {
            int set = 0;
            for (int f = 0; f < FIELDS; f++) {
                if (fieldOf(one, f) != fieldOf(other, f)) {
                    set |= 1 << f;
                }
            }
            return set;
        }

        private static boolean meetsAll(int set, long partings) {
            for (int parting = 0; parting <= ALL_FIELDS; parting++) {
                if ((partings >>> parting & 1L) != 0 && (parting & set) == 0) {
                    return false;
                }
            }
            return true;
        }
    }

    /** What a RULE or a WAY says: its END and its TESTS, as read from THE TAPE. */
    private static final class Text {
        private static final int MOST_TESTS = 5;
        private final int[] bytes;
        private final int[] fields = new int[MOST_TESTS];
        // For each TEST the values of its FIELD for which it holds, as bits; a not is in them.
        private final int[] values = new int[MOST_TESTS];
        private final boolean[] behindOr = new boolean[MOST_TESTS];
        private final SortSet fitting = new SortSet();
        private boolean unless;
        private int length;
        private int at;
        private int end;
        private int tests;

        Text(int[] bytes) {
            this.bytes = bytes;
        }

        /** SOUND, or the FAULT: reading stops at the first byte that no RULE has there. */
        int readTape(int tapeLength) {
            length = Math.min(tapeLength, bytes.length);
            at = 0;
            tests = 0;
            unless = false;
            if (!readEnd() || at < length && !readCondition()) {
                return at;
            }
            findFitting();
            return SOUND;
        }

        int addTo(int top, int rank, int sort) {
            return fitting.has(sort) ? joined(top, rank, end) : top;
        }

        private boolean readEnd() {
            switch (next()) {
                case 'v':
                    end = VOID;
                    return readWord("void");
                case 'h':
                    end = HOLDS;
                    return readWord("holds");
                case 'o':
                    return readWord("owed ") && readOwed();
                case 't':
                    return readWord("to ") && readGoes();
                default:
                    return false;
            }
        }

        private boolean readOwed() {
            int first = readDigit('9');
            if (first < 0) {
                return false;
            }
            int second = readDigit('9');
            end = OWED + (second < 0 ? first : first * 10 + second);
            return true;
        }

        private boolean readGoes() {
            int k = readDigit('3');
            end = GOES + k;
            return k >= 0;
        }

        private boolean readCondition() {
            if (!readWord(" ")) {
                return false;
            }
            unless = next() == 'u';
            boolean sound = readWord(unless ? "unless " : "if ") && readTest(false);
            for (int i = 1; i < MOST_TESTS && sound && at < length; i++) {
                sound = readLink();
            }
            return sound && at == length;
        }

        private boolean readLink() {
            if (!readWord(" ")) {
                return false;
            }
            boolean or = next() == 'o';
            return readWord(or ? "or " : "and ") && readTest(or);
        }

        private boolean readTest(boolean or) {
            boolean not = next() == 'n';
            if (not && !readWord("not ")) {
                return false;
            }
            int field = fieldBegunBy(next());
            if (field < 0 || !readWord(nameOf(field))) {
                return false;
            }
            int sign = signOf(next());
            if (sign < 0) {
                return false;
            }
            at++;
            int number = readDigit('9');
            if (number < 0 || tests >= MOST_TESTS) {
                return false;
            }
            fields[tests] = field;
            values[tests] = valuesFor(sign, number, not);
            behindOr[tests] = or;
            tests++;
            return true;
        }

        private static int valuesFor(int sign, int number, boolean not) {
            int set = 0;
            for (int value = 0; value < 4; value++) {
                if (isSo(value, sign, number) != not) {
                    set |= 1 << value;
                }
            }
            return set;
        }

        // No two FIELDS' names begin with the same byte.
        private static int fieldBegunBy(int first) {
            for (int f = 0; f < FIELDS; f++) {
                if (nameOf(f).charAt(0) == first) {
                    return f;
                }
            }
            return -1;
        }

        private static int signOf(int sign) {
            switch (sign) {
                case '<': return 0;
                case '=': return 1;
                case '>': return 2;
                default: return -1;
            }
        }

        private int next() {
            return at < length ? bytes[at] : -1;
        }

        private boolean readWord(String word) {
            for (int i = 0; i < word.length(); i++) {
                if (next() != word.charAt(i)) {
                    return false;
                }
                at++;
            }
            return true;
        }

        private int readDigit(char last) {
            int digit = next();
            if (digit < '0' || digit > last) {
                return -1;
            }
            at++;
            return digit - '0';
        }

        private void findFitting() {
            fitting.clear();
            for (int sort = 0; sort < SORTS; sort++) {
                if (testsHold(sort) != unless) {
                    fitting.put(sort);
                }
            }
        }

        private boolean testsHold(int sort) {
            boolean one = false;
            boolean all = true;
            for (int i = 0; i < tests; i++) {
                if (behindOr[i]) {
                    one = one || all;
                    all = true;
                }
                all = all && (values[i] >> fieldOf(sort, fields[i]) & 1) != 0;
            }
            return one || all;
        }
    }

    /** A RULE, with what was told of it and when that became KNOWN. */
    private static final class Rule {
        private static final int MOST_WITNESSES = 20;
        private static final int NEEDED = 2;
        private final Text text;
        private final int kind;
        private final int body;
        private final int rank;
        private final int from;
        private final int known;
        private final int witnesses;
        private final int[] fellOn = new int[MOST_WITNESSES];
        private int fallen;
        private int struckFrom = -1;
        private int strikeKnown;

        Rule(Text text, int kind, int body, int rank, int from, int known, int witnesses) {
            this.text = text;
            this.kind = kind;
            this.body = body;
            this.rank = rank;
            this.from = from;
            this.known = known;
            this.witnesses = witnesses;
        }

        int group() {
            return kind == SAVED ? SAVED_ONES : body;
        }

        boolean struckOnce(int day, int now) {
            if (struckFrom >= 0) {
                return false;
            }
            struckFrom = day;
            strikeKnown = now;
            return true;
        }

        int standing() {
            return witnesses - fallen;
        }

        void loseWitness(int now) {
            if (fallen < witnesses && fallen < MOST_WITNESSES) {
                fellOn[fallen] = now;
                fallen++;
            }
        }

        boolean isInForce(int a, int k) {
            if (known > k || from > a) {
                return false;
            }
            boolean struck = struckFrom >= 0 && strikeKnown <= k && struckFrom <= a;
            return !struck && (kind != SWORN || standingAsKnown(k) >= NEEDED);
        }

        private int standingAsKnown(int k) {
            int standing = witnesses;
            for (int i = 0; i < fallen; i++) {
                if (fellOn[i] <= k) {
                    standing--;
                }
            }
            return standing;
        }
    }

    /** All RULES, what they answer, and their ACTS. */
    private static final class Rules {
        private static final int MOST_RULES = 80;
        private static final int NO_RULE = -1;
        private static final int MOST_KEPT = 20;
        private final Rule[] rows = new Rule[MOST_RULES];
        private final int[][] inForce = new int[GROUPS][MOST_RULES];
        private final int[] forceSizes = new int[GROUPS];
        private final int[] bodiesRun = new int[MOST_KEPT];
        private int size;
        private int ran;

        boolean has(int rule) {
            return rule >= 0 && rule < size;
        }

        boolean isFull() {
            return size >= MOST_RULES;
        }

        /** To be asked for numbers that it has. */
        Rule at(int rule) {
            return rows[rule];
        }

        int add(Rule rule) {
            rows[size] = rule;
            size++;
            return size - 1;
        }

        /** Sets down once which RULES are in force, so that every SORT need not ask it again. */
        void gather(int a, int k) {
            Arrays.fill(forceSizes, 0);
            for (int i = 0; i < size; i++) {
                if (rows[i].isInForce(a, k)) {
                    int group = rows[i].group();
                    inForce[group][forceSizes[group]] = i;
                    forceSizes[group]++;
                }
            }
        }

        /** The TOP of the RULES gathered in a GROUP, but for one. */
        int topWithout(int without, int group, int sort) {
            int top = 0;
            int[] row = inForce[group];
            for (int i = 0; i < forceSizes[group]; i++) {
                if (row[i] != without) {
                    Rule rule = rows[row[i]];
                    top = rule.text.addTo(top, rule.rank, sort);
                }
            }
            return top;
        }

        int top(int group, int sort) {
            return topWithout(NO_RULE, group, sort);
        }

        int answerOf(int group, int sort, int a, int k) {
            gather(a, k);
            return endOf(topWithout(NO_RULE, group, sort));
        }

        int giver(int group, int sort, int a, int k, int i) {
            gather(a, k);
            int rank = rankOf(top(group, sort));
            int seen = 0;
            for (int n = 0; n < forceSizes[group]; n++) {
                int number = inForce[group][n];
                if (rows[number].rank == rank && rows[number].text.fitting.has(sort)) {
                    if (seen == i) {
                        return number;
                    }
                    seen++;
                }
            }
            return NONE;
        }

        void findUnlike(SortSet set, int a, int b, int now) {
            gather(now, now);
            set.clear();
            for (int sort = 0; sort < SORTS; sort++) {
                if (endOf(top(a, sort)) != endOf(top(b, sort))) {
                    set.put(sort);
                }
            }
        }

        void findAnswered(SortSet set, int group, int end, int now) {
            gather(now, now);
            set.clear();
            for (int sort = 0; sort < SORTS; sort++) {
                if (endOf(top(group, sort)) == end) {
                    set.put(sort);
                }
            }
        }

        void findMoved(SortSet set, int number, Text instead, int now) {
            gather(now, now);
            set.clear();
            Rule rule = rows[number];
            if (!rule.isInForce(now, now)) {
                return;
            }
            for (int sort = 0; sort < SORTS; sort++) {
                int others = topWithout(number, rule.group(), sort);
                int before = rule.text.addTo(others, rule.rank, sort);
                int after = instead.addTo(others, rule.rank, sort);
                if (endOf(before) != endOf(after)) {
                    set.put(sort);
                }
            }
        }

        void clearTrace() {
            ran = 0;
        }

        int bodyRun(int i) {
            return i >= 0 && i < ran && i < MOST_KEPT ? bodiesRun[i] : NONE;
        }

        private void begin(int body) {
            if (ran < MOST_KEPT) {
                bodiesRun[ran] = body;
            }
            ran++;
        }

        // The three ACTS tell the bodies of all KINDS in the order in which they begin: each
        // first the body of the KIND itself, then what its super calls.

        int runHolds(Rule rule, int m, int x) {
            boolean ofCode = isUnder(rule.kind, LINE);
            if (rule.kind == SWORN) {
                begin(30);
            }
            if (ofCode) {
                begin(50);
            }
            begin(10);
            int held = x + rule.rank;
            if (rule.kind == SWORN) {
                return held * 3;
            }
            return ofCode ? held ^ m : held;
        }

        int runHangs(Rule rule, int m, int x) {
            boolean saved = rule.kind == SAVED;
            boolean written = isUnder(rule.kind, WRITTEN);
            if (saved) {
                begin(61);
            }
            if (written) {
                begin(20);
            }
            begin(11);
            int hung = runHolds(rule, m, saved ? x - m : x) * 2;
            return written ? hung - rule.rank : hung;
        }

        int runSaves(Rule rule, int m, int x) {
            boolean saved = rule.kind == SAVED;
            boolean shown = rule.kind == SHOWN;
            if (saved) {
                begin(60);
            }
            if (shown) {
                begin(40);
            }
            begin(12);
            int y = shown ? x + 1 : x;
            int hung = runHangs(rule, m, y);
            int both = hung ^ runHolds(rule, m, y + m);
            return saved ? both + 4 : both;
        }
    }

    /** DISTRICTS, LAW in them, and the DEEDS done there. */
    private static final class Districts {
        private static final int MOST_DISTRICTS = 8;
        private static final int MOST_DEEDS = 60;
        private static final int NO_DAY = -1;
        private final Rules rules;
        private final int[] customs = new int[MOST_DISTRICTS];
        private final int[] people = new int[MOST_DISTRICTS];
        private final int[] codeFrom = new int[MOST_DISTRICTS];
        private final int[] chests = new int[MOST_DISTRICTS];
        private final int[] deedDistrict = new int[MOST_DEEDS];
        private final int[] deedSort = new int[MOST_DEEDS];
        private final int[] deedDay = new int[MOST_DEEDS];
        private int size;
        private int deeds;

        Districts(Rules rules) {
            this.rules = rules;
        }

        boolean has(int district) {
            return district >= 0 && district < size;
        }

        boolean isFull() {
            return size >= MOST_DISTRICTS;
        }

        int add(int custom, int headcount) {
            customs[size] = custom;
            people[size] = headcount;
            codeFrom[size] = NO_DAY;
            size++;
            return size - 1;
        }

        boolean hasCode(int district, int day) {
            return codeFrom[district] != NO_DAY && codeFrom[district] <= day;
        }

        boolean isUnder(int district, int body, int now) {
            boolean code = hasCode(district, now);
            return body == CODE ? code : !code && customs[district] == body;
        }

        int peopleUnder(int body, int now) {
            int sum = 0;
            for (int d = 0; d < size; d++) {
                if (isUnder(d, body, now)) {
                    sum += people[d];
                }
            }
            return sum;
        }

        int peopleOf(int custom) {
            int sum = 0;
            for (int d = 0; d < size; d++) {
                if (customs[d] == custom) {
                    sum += people[d];
                }
            }
            return sum;
        }

        int lawOf(int district, int sort, int f, int j, int k) {
            if (hasCode(district, f)) {
                return rules.answerOf(LINES, sort, f, k);
            }
            if (hasCode(district, j)) {
                int saved = rules.answerOf(SAVED_ONES, sort, j, k);
                if (saved != GAP) {
                    return saved;
                }
            }
            return rules.answerOf(customs[district], sort, f, k);
        }

        int allChests() {
            int sum = 0;
            for (int d = 0; d < size; d++) {
                sum += chests[d];
            }
            return sum;
        }

        boolean hasDeed(int deed) {
            return deed >= 0 && deed < deeds;
        }

        boolean isFullOfDeeds() {
            return deeds >= MOST_DEEDS;
        }

        int addDeed(int district, int sort, int now) {
            deedDistrict[deeds] = district;
            deedSort[deeds] = sort;
            deedDay[deeds] = now;
            deeds++;
            return deeds - 1;
        }

        boolean isLost(int deed, int now) {
            int where = deedDistrict[deed];
            int sort = deedSort[deed];
            int day = deedDay[deed];
            return lawOf(where, sort, day, now, now) != lawOf(where, sort, day, day, day);
        }
    }

    /** CASES, and the FORMS that they leave. */
    private static final class Cases {
        private static final int MOST_CASES = 100;
        private static final int FORMS = 72;
        private static final int NO_END = -1;
        private final int[] districts = new int[MOST_CASES];
        private final int[] sorts = new int[MOST_CASES];
        private final int[] ends = new int[MOST_CASES];
        // How many FORMS that are LEFT hold for a FIELD's value, by FIELD times 4 and value.
        private final int[] holding = new int[FIELDS * 4];
        private int formsCounted;
        private int size;

        boolean isFull() {
            return size >= MOST_CASES;
        }

        int add(int district, int sort, int end) {
            districts[size] = district;
            sorts[size] = sort;
            ends[size] = end;
            size++;
            return size - 1;
        }

        int formsLeft(int district) {
            int sum = 0;
            for (int form = 0; form < FORMS; form++) {
                if (isLeft(district, form)) {
                    sum++;
                }
            }
            return sum;
        }

        int formLeft(int district, int i) {
            int seen = 0;
            for (int form = 0; form < FORMS; form++) {
                if (isLeft(district, form)) {
                    if (seen == i) {
                        return form;
                    }
                    seen++;
                }
            }
            return NONE;
        }

        int bestParting(int district) {
            countHolding(district);
            int best = 0;
            int most = lesserPart(0);
            for (int sort = 1; sort < SORTS; sort++) {
                int lesser = lesserPart(sort);
                if (lesser > most) {
                    best = sort;
                    most = lesser;
                }
            }
            return best;
        }

        /** Of the FORMS that were LEFT for the DISTRICT parted last. */
        int lesserPart(int sort) {
            int held = 0;
            for (int f = 0; f < FIELDS; f++) {
                held += holding[f * 4 + fieldOf(sort, f)];
            }
            return Math.min(held, formsCounted - held);
        }

        int firstInQuarrel(int district) {
            for (int i = 0; i < size; i++) {
                if (districts[i] == district && rival(i) >= 0) {
                    return i;
                }
            }
            return NONE;
        }

        int rival(int first) {
            for (int i = first + 1; i < size; i++) {
                boolean same = districts[i] == districts[first] && sorts[i] == sorts[first];
                if (same && ends[i] != ends[first]) {
                    return i;
                }
            }
            return NONE;
        }

        private void countHolding(int district) {
            Arrays.fill(holding, 0);
            formsCounted = 0;
            for (int form = 0; form < FORMS; form++) {
                if (isLeft(district, form)) {
                    formsCounted++;
                    countHoldingOf(form);
                }
            }
        }

        private void countHoldingOf(int form) {
            int field = form / 12;
            for (int value = 0; value < sizeOf(field); value++) {
                if (isSo(value, form / 4 % 3, form % 4)) {
                    holding[field * 4 + value]++;
                }
            }
        }

        private boolean isLeft(int district, int form) {
            int ifHeld = NO_END;
            int ifNot = NO_END;
            for (int i = 0; i < size; i++) {
                if (districts[i] != district) {
                    continue;
                }
                boolean held = isSo(fieldOf(sorts[i], form / 12), form / 4 % 3, form % 4);
                int before = held ? ifHeld : ifNot;
                if (before != NO_END && before != ends[i]) {
                    return false;
                }
                if (held) {
                    ifHeld = ends[i];
                } else {
                    ifNot = ends[i];
                }
            }
            return true;
        }
    }

    /** PERSONS, and how their COINS are parted when they are dead. */
    private static final class Persons {
        private static final int MOST_PERSONS = 30;
        private static final int NOBODY = -1;
        private static final int LIVING = 0;
        private static final int DEAD = 1;
        private static final int QUARRELLED = 2;
        private final Districts districts;
        private final int[] district = new int[MOST_PERSONS];
        private final int[] parent = new int[MOST_PERSONS];
        private final int[] age = new int[MOST_PERSONS];
        private final int[] house = new int[MOST_PERSONS];
        private final int[] oath = new int[MOST_PERSONS];
        private final int[] coins = new int[MOST_PERSONS];
        private final int[] state = new int[MOST_PERSONS];
        private final int[] diedAs = new int[MOST_PERSONS];
        private int size;

        Persons(Districts districts) {
            this.districts = districts;
        }

        boolean has(int person) {
            return person >= 0 && person < size;
        }

        boolean isFull() {
            return size >= MOST_PERSONS;
        }

        int add(int where, int whose, int years, int home, int sworn, int purse) {
            district[size] = where;
            parent[size] = whose;
            age[size] = years;
            house[size] = home;
            oath[size] = sworn;
            coins[size] = purse;
            state[size] = LIVING;
            diedAs[size] = -1;
            size++;
            return size - 1;
        }

        boolean lives(int person) {
            return state[person] == LIVING;
        }

        boolean isQuarrelled(int person) {
            return state[person] == QUARRELLED;
        }

        int inState(int which) {
            int sum = 0;
            for (int p = 0; p < size; p++) {
                if (state[p] == which) {
                    sum++;
                }
            }
            return sum;
        }

        int allCoins() {
            int sum = 0;
            for (int p = 0; p < size; p++) {
                sum += coins[p];
            }
            return sum;
        }

        /** How many children live, one of them left out of the count (or NOBODY). */
        int livingChildren(int person, int without) {
            int sum = 0;
            for (int p = 0; p < size; p++) {
                if (isHeir(p, person, without)) {
                    sum++;
                }
            }
            return sum;
        }

        /** Whoever is dead is QUARRELLED over till LAW parts the COINS. */
        void bury(int person) {
            diedAs[person] = sortOf(person);
            state[person] = QUARRELLED;
        }

        int endQuarrel(int person, int now) {
            int end = districts.lawOf(district[person], diedAs[person], now, now, now);
            if (end >= 0) {
                state[person] = DEAD;
                partCoins(person, end);
            }
            return end;
        }

        private int sortOf(int person) {
            int kids = Math.min(livingChildren(person, NOBODY), 3);
            int goods = Math.min(coins[person] / 100, 3);
            int sort = (DIED * 4 + age[person]) * 3 + house[person];
            return ((sort * 4 + kids) * 2 + oath[person]) * 4 + goods;
        }

        private void partCoins(int person, int end) {
            int all = coins[person];
            coins[person] = 0;
            if (end == VOID) {
                toChest(person, all);
            } else if (end >= GOES) {
                goByWay(person, end - GOES, all);
            } else {
                int owed = end >= OWED ? all * (end - OWED) / 100 : 0;
                toChest(person, owed);
                toChildren(person, NOBODY, all - owed);
            }
        }

        private void goByWay(int person, int way, int all) {
            int eldest = eldestLiving(person);
            switch (way) {
                case 0:
                    toOne(person, eldest, all);
                    break;
                case 1:
                    toChildren(person, NOBODY, all);
                    break;
                case 2:
                    toOne(person, parent[person], all);
                    break;
                default:
                    int half = livingChildren(person, eldest) == 0 ? all : all / 2;
                    toOne(person, eldest, half);
                    toChildren(person, eldest, all - half);
            }
        }

        private int eldestLiving(int person) {
            for (int p = 0; p < size; p++) {
                if (isHeir(p, person, NOBODY)) {
                    return p;
                }
            }
            return NOBODY;
        }

        private boolean isHeir(int p, int person, int without) {
            return parent[p] == person && state[p] == LIVING && p != without;
        }

        private void toOne(int person, int heir, int sum) {
            if (has(heir) && lives(heir)) {
                coins[heir] += sum;
            } else {
                toChest(person, sum);
            }
        }

        private void toChildren(int person, int without, int sum) {
            int heirs = livingChildren(person, without);
            if (heirs == 0) {
                toChest(person, sum);
                return;
            }
            int over = sum % heirs;
            for (int p = 0; p < size; p++) {
                if (isHeir(p, person, without)) {
                    coins[p] += sum / heirs + (over > 0 ? 1 : 0);
                    over--;
                }
            }
        }

        private void toChest(int person, int sum) {
            districts.chests[district[person]] += sum;
        }
    }

    /** SLOTS with WAYS, and what the WRITINGS of them keep. */
    private static final class Writings {
        private static final int SLOTS = 5;
        private static final int MOST_WAYS = 3;
        private static final int MOST_WRITINGS = 243;
        private static final int BASE = 4;
        private final Rules rules;
        private final Districts districts;
        private final Text[] texts = new Text[SLOTS * MOST_WAYS];
        private final int[] ranks = new int[SLOTS * MOST_WAYS];
        private final int[] ways = new int[SLOTS];
        private final int[] customPeople = new int[CUSTOMS];
        // The ENDS of the customs that have people and no CLASH or GAP, for the SORT asked last.
        private final int[] customEnds = new int[CUSTOMS];
        private final int[] endPeople = new int[CUSTOMS];
        private int ends;
        // By the PLACE of a WRITING: SLOT 0's WAY counts most in it, so that of several
        // WRITINGS the one that the document wants is the one of the least PLACE.
        private final int[] tops = new int[MOST_WRITINGS];
        private final int[] kept = new int[MOST_WRITINGS];

        Writings(Rules rules, Districts districts) {
            this.rules = rules;
            this.districts = districts;
        }

        boolean hasSlot(int slot) {
            return slot >= 0 && slot < SLOTS;
        }

        boolean isFull(int slot) {
            return ways[slot] >= MOST_WAYS;
        }

        int add(int slot, Text text, int rank) {
            int number = ways[slot];
            texts[slot * MOST_WAYS + number] = text;
            ranks[slot * MOST_WAYS + number] = rank;
            ways[slot]++;
            return number;
        }

        int allWays() {
            int sum = 0;
            for (int slot = 0; slot < SLOTS; slot++) {
                sum += ways[slot];
            }
            return sum;
        }

        boolean isWriting(int writing) {
            if (writing < 0 || writing >> 2 * SLOTS != 0) {
                return false;
            }
            for (int slot = 0; slot < SLOTS; slot++) {
                if (digitOf(writing, slot) >= Math.max(ways[slot], 1)) {
                    return false;
                }
            }
            return true;
        }

        int keptBy(int writing, int now) {
            prepare(now);
            int sum = 0;
            for (int sort = 0; sort < SORTS; sort++) {
                askCustoms(sort);
                sum += peopleWith(endOf(topOfWriting(writing, sort)));
            }
            return sum;
        }

        int placeOfBest(int now) {
            prepare(now);
            int writings = 1;
            for (int slot = 0; slot < SLOTS; slot++) {
                writings *= Math.max(ways[slot], 1);
            }
            Arrays.fill(kept, 0);
            for (int sort = 0; sort < SORTS; sort++) {
                askCustoms(sort);
                if (ends > 0) {
                    spreadTops(sort);
                    keepBy(writings);
                }
            }
            int best = 0;
            for (int place = 1; place < writings; place++) {
                if (kept[place] > kept[best]) {
                    best = place;
                }
            }
            return best;
        }

        int keptAt(int place) {
            return kept[place];
        }

        int writingAt(int place) {
            int rest = place;
            int writing = 0;
            for (int slot = SLOTS - 1; slot >= 0; slot--) {
                int choices = Math.max(ways[slot], 1);
                writing = writing * BASE + rest % choices;
                rest /= choices;
            }
            return writing;
        }

        private int topOfWriting(int writing, int sort) {
            int top = rules.top(LINES, sort);
            for (int slot = 0; slot < SLOTS; slot++) {
                if (ways[slot] > 0) {
                    int i = slot * MOST_WAYS + digitOf(writing, slot);
                    top = texts[i].addTo(top, ranks[i], sort);
                }
            }
            return top;
        }

        private void keepBy(int writings) {
            for (int place = 0; place < writings; place++) {
                kept[place] += peopleWith(endOf(tops[place]));
            }
        }

        /** Sets the TOPS of all WRITINGS for a SORT, each SLOT spreading those of the SLOTS ahead. */
        private void spreadTops(int sort) {
            tops[0] = rules.top(LINES, sort);
            int spread = 1;
            for (int slot = 0; slot < SLOTS; slot++) {
                if (ways[slot] > 0) {
                    spreadOver(slot, spread, waysFitting(slot, sort));
                    spread *= ways[slot];
                }
            }
        }

        private void spreadOver(int slot, int spread, int fitting) {
            int choices = ways[slot];
            // From behind, so that no TOP is written over that is still to be spread.
            for (int i = spread - 1; i >= 0; i--) {
                int ahead = tops[i];
                for (int number = choices - 1; number >= 0; number--) {
                    int way = slot * MOST_WAYS + number;
                    boolean fits = (fitting >> number & 1) != 0;
                    tops[i * choices + number] = fits ? joined(ahead, ranks[way], texts[way].end) : ahead;
                }
            }
        }

        /** As bits, so that a way is not asked anew for each TOP that it spreads. */
        private int waysFitting(int slot, int sort) {
            int set = 0;
            for (int number = 0; number < ways[slot]; number++) {
                if (texts[slot * MOST_WAYS + number].fitting.has(sort)) {
                    set |= 1 << number;
                }
            }
            return set;
        }

        private static int digitOf(int writing, int slot) {
            return writing >> 2 * slot & BASE - 1;
        }

        private void prepare(int now) {
            rules.gather(now, now);
            for (int custom = 0; custom < CUSTOMS; custom++) {
                customPeople[custom] = districts.peopleOf(custom);
            }
        }

        private void askCustoms(int sort) {
            ends = 0;
            for (int custom = 0; custom < CUSTOMS; custom++) {
                int end = customPeople[custom] > 0 ? endOf(rules.top(custom, sort)) : GAP;
                if (end >= 0) {
                    customEnds[ends] = end;
                    endPeople[ends] = customPeople[custom];
                    ends++;
                }
            }
        }

        private int peopleWith(int end) {
            int sum = 0;
            for (int i = 0; i < ends; i++) {
                if (customEnds[i] == end) {
                    sum += endPeople[i];
                }
            }
            return sum;
        }
    }

    /** LINES on the TABLE, and SECTIONS that like or hate them. */
    private static final class Table {
        private static final int MOST_LINES = 7;
        private static final int MOST_SECTIONS = 9;
        private final int[] costs = new int[MOST_LINES];
        private final int[][] likings = new int[MOST_SECTIONS][MOST_LINES];
        private int lines;
        private int sections;

        boolean isFullOfLines() {
            return lines >= MOST_LINES;
        }

        int addLine(int cost) {
            costs[lines] = cost;
            lines++;
            return lines - 1;
        }

        boolean isFullOfSections() {
            return sections >= MOST_SECTIONS;
        }

        int addSection() {
            sections++;
            return sections - 1;
        }

        boolean isSet(int yielded) {
            return yielded >= 0 && yielded >> lines == 0;
        }

        int sectionsFor(int yielded) {
            int sum = 0;
            for (int section = 0; section < sections; section++) {
                if (likingOf(section, yielded) >= 0) {
                    sum++;
                }
            }
            return sum;
        }

        /** The set to yield, or -1 if nothing carries it. */
        int leastYielding() {
            int best = -1;
            for (int set = 0; set < 1 << lines; set++) {
                boolean isCarried = sectionsFor(set) * 2 > sections;
                if (isCarried && (best < 0 || yieldsLess(set, best))) {
                    best = set;
                }
            }
            return best;
        }

        int costOf(int yielded) {
            int sum = 0;
            for (int line = 0; line < lines; line++) {
                if ((yielded >> line & 1) != 0) {
                    sum += costs[line];
                }
            }
            return sum;
        }

        private boolean yieldsLess(int set, int other) {
            int cost = costOf(set);
            int otherCost = costOf(other);
            return cost < otherCost || cost == otherCost && Integer.bitCount(set) < Integer.bitCount(other);
        }

        private int likingOf(int section, int yielded) {
            int sum = 0;
            for (int line = 0; line < lines; line++) {
                if ((yielded >> line & 1) == 0) {
                    sum += likings[section][line];
                }
            }
            return sum;
        }
    }

    /** The ROW in which DISTRICTS are taught. */
    private static final class Lessons {
        private static final int ALONE = -1;
        // More than any ROW waits: 8 DISTRICTS of 12 MONTHS with 99 CASES come to 42768.
        private static final int BEYOND_ALL = 1000000;
        private final int[] months = new int[Districts.MOST_DISTRICTS];
        private final int[] waiting = new int[Districts.MOST_DISTRICTS];
        private final int[] behind = new int[Districts.MOST_DISTRICTS];
        // By the set of DISTRICTS done: the least that the others wait then.
        private final int[] stillWaits = new int[1 << Districts.MOST_DISTRICTS];

        Lessons() {
            Arrays.fill(months, 1);
            Arrays.fill(behind, ALONE);
        }

        boolean goesRound(int district, int ahead) {
            int d = ahead;
            for (int steps = 0; steps < behind.length && d != ALONE; steps++) {
                if (d == district) {
                    return true;
                }
                d = behind[d];
            }
            return false;
        }

        int leastWaiting(int n) {
            int all = (1 << n) - 1;
            stillWaits[all] = 0;
            for (int done = all - 1; done >= 0; done--) {
                int best = BEYOND_ALL;
                for (int d = 0; d < n; d++) {
                    if (mayFollow(d, done)) {
                        best = Math.min(best, waitsIfNext(d, done));
                    }
                }
                stillWaits[done] = best;
            }
            return stillWaits[0];
        }

        int taughtAt(int i, int n) {
            leastWaiting(n);
            int done = 0;
            for (int place = 0; place < i; place++) {
                done |= 1 << nextTaught(done, n);
            }
            return nextTaught(done, n);
        }

        private int nextTaught(int done, int n) {
            for (int d = 0; d < n; d++) {
                if (mayFollow(d, done) && waitsIfNext(d, done) == stillWaits[done]) {
                    return d;
                }
            }
            return 0;
        }

        private boolean mayFollow(int d, int done) {
            boolean free = behind[d] == ALONE || (done >> behind[d] & 1) != 0;
            return free && (done >> d & 1) == 0;
        }

        private int waitsIfNext(int d, int done) {
            int time = months[d];
            for (int other = 0; other < months.length; other++) {
                if ((done >> other & 1) != 0) {
                    time += months[other];
                }
            }
            return time * waiting[d] + stillWaits[done | 1 << d];
        }
    }

    /** SHEETS: rows of bytes, shorts or ints, or missing. */
    private static final class Sheets {
        private static final int SHEETS = 3;
        private static final int MOST_ITEMS = 40;
        private static final int NO_SORT = -1;
        private static final int BYTES = 0;
        private static final int SHORTS = 1;
        private static final int INTS = 2;
        private final int[][] items = new int[SHEETS][MOST_ITEMS];
        private final int[] sorts = new int[SHEETS];
        private final int[] lengths = new int[SHEETS];

        Sheets() {
            Arrays.fill(sorts, NO_SORT);
        }

        boolean has(int sheet) {
            return sheet >= 0 && sheet < SHEETS;
        }

        boolean isSort(int sort) {
            return sort >= BYTES && sort <= INTS;
        }

        boolean isMissing(int sheet) {
            return sorts[sheet] == NO_SORT;
        }

        void remove(int sheet) {
            sorts[sheet] = NO_SORT;
            lengths[sheet] = 0;
        }

        void lay(int sheet, int sort, int n) {
            sorts[sheet] = sort;
            lengths[sheet] = n;
            Arrays.fill(items[sheet], 0);
        }

        boolean spans(int sheet, int i, int n) {
            return i >= 0 && n >= 0 && i <= lengths[sheet] - n;
        }

        int item(int sheet, int i) {
            return items[sheet][i];
        }

        void put(int sheet, int i, int v) {
            switch (sorts[sheet]) {
                case BYTES:
                    items[sheet][i] = (byte) v;
                    break;
                case SHORTS:
                    items[sheet][i] = (short) v;
                    break;
                default:
                    items[sheet][i] = v;
            }
        }

        /** The SORT that six items tell, or -1 if one is no such FIELD. */
        int factsFrom(int sheet, int i) {
            int sort = 0;
            for (int f = 0; f < FIELDS; f++) {
                int value = items[sheet][i + f];
                if (value < 0 || value >= sizeOf(f)) {
                    return -1;
                }
                sort = sort * sizeOf(f) + value;
            }
            return sort;
        }
    }
}
