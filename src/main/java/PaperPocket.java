import java.util.Arrays;

/** Papers of offices, what they prove at doors, and who bears them: see DOC.md, promises 1 to 39. */
public final class PaperPocket {
    public static final int NONE = -1000000, BAD = -1000001, STATE = -1000002, FULL = -1000003;

    /** A finding is answered as this less its number. */
    private static final int FOUND = -1000010;
    private static final int NULL = 1, PLACE = 2, KIND = 3, SIZE = 4, STORE = 5;

    private static final int M = 65521;
    private static final int OFFICES = 4, BEARERS = 6, DOORS = 4, FIELDS = 4, PAPERS = 12;
    private static final int LAST_SET = 15, MOST_VALUE = 999;
    private static final int LAST_DAY = 999;
    /** Later than any day that can be told, so that a day compared with it never comes. */
    private static final int NEVER = LAST_DAY + 1;

    private static final int GROUP = 47, ORDER = 23, BASE = 4;

    private static final int PAPER_KIND = 0, STAMP_KIND = 1, SHORT_KIND = 2, GRADE_KIND = 3, LENT_KIND = 4, GONE_KIND = 5;

    private final Sheets sheets = new Sheets();
    private final Offices offices = new Offices();
    private final Paper[] papers = new Paper[PAPERS];
    private final int[] secrets = new int[BEARERS];
    private final Circle circle = new Circle();
    private final Gates gates = new Gates();
    private final Tape tape = new Tape();
    private final Choice choice = new Choice();
    private final Sightings sightings = new Sightings();
    private final Line line = new Line();
    private final Bodies bodies = new Bodies();
    private final int[] shown = new int[FIELDS];
    private int paperCount;
    private int theDay;
    private int latestFinding;

    public PaperPocket() {
        for (int bearer = 0; bearer < BEARERS; bearer++) {
            secrets[bearer] = bearer + 2;
        }
    }

    // ---- sheets

    public int sheet(int sheet, int lane, int n) {
        if (!Sheets.isNumber(sheet) || !within(lane, 0, Sheets.LAST_LANE) || n > Sheets.MOST_ITEMS) {
            return BAD;
        }
        if (n < 0) {
            return finding(SIZE);
        }
        sheets.make(sheet, lane, n);
        return found(n);
    }

    public int set(int sheet, int i, int v) {
        if (!Sheets.isNumber(sheet)) {
            return BAD;
        }
        int trouble = sheets.troubleAt(sheet, i, 1);
        if (trouble != 0) {
            return finding(trouble);
        }
        return found(sheets.put(sheet, i, v));
    }

    public int copy(int a, int i, int b, int j, int n) {
        if (!Sheets.isNumber(a) || !Sheets.isNumber(b)) {
            return BAD;
        }
        if (sheets.isMissing(a) || sheets.isMissing(b)) {
            return finding(NULL);
        }
        if (sheets.lanes[a] != sheets.lanes[b]) {
            return finding(STORE);
        }
        if (!sheets.reaches(a, i, n) || !sheets.reaches(b, j, n)) {
            return finding(PLACE);
        }
        System.arraycopy(sheets.items[a], i, sheets.items[b], j, n);
        return found(n);
    }

    public int drop(int sheet) {
        if (!Sheets.isNumber(sheet)) {
            return BAD;
        }
        if (sheets.isMissing(sheet)) {
            return finding(NULL);
        }
        return found(sheets.forget(sheet));
    }

    // ---- offices, papers

    public int key(int office, int day, int v) {
        if (!isOffice(office) || !isDay(day) || !within(v, 1, M - 1)) {
            return BAD;
        }
        return offices.addKey(office, day, v) ? offices.keyCounts[office] : FULL;
    }

    public int keyOn(int office, int day) {
        return isOffice(office) && isDay(day) ? offices.keyAt(office, day) : BAD;
    }

    public int close(int office, int what, int day) {
        if (!isOffice(office) || !within(what, 0, 1) || !isDay(day)) {
            return BAD;
        }
        int[] days = what == 0 ? offices.burntFrom : offices.endsOn;
        if (days[office] != NEVER) {
            return STATE;
        }
        days[office] = day;
        return 1;
    }

    public int paper(int sheet, int i) {
        if (!Sheets.isNumber(sheet)) {
            return BAD;
        }
        if (paperCount >= PAPERS) {
            return FULL;
        }
        int trouble = sheets.troubleAt(sheet, i, Paper.ITEMS);
        if (trouble != 0) {
            return finding(trouble);
        }
        int[] items = sheets.items[sheet];
        if (!Paper.isTold(items, i)) {
            return BAD;
        }
        papers[paperCount] = new Paper(paperCount, items, i);
        paperCount++;
        return found(paperCount - 1);
    }

    public int told(int paper, int what) {
        Paper it = paperAt(paper);
        if (it == null || !within(what, 0, 15)) {
            return BAD;
        }
        if (what < FIELDS) {
            return it.fields[what];
        }
        if (what >= 12) {
            return it.chainEnd(what - 12);
        }
        switch (what) {
            case 4: return it.half(0);
            case 5: return it.half(1);
            case 6: return it.root();
            case 7: return seal(it.root(), keyOf(it));
            case 8: return it.office;
            case 9: return it.bearer;
            case 10: return it.first;
            default: return it.last;
        }
    }

    public int show(int paper, int set, int i) {
        Paper it = paperAt(paper);
        if (it == null || !isSet(set) || i < -1) {
            return BAD;
        }
        int many = it.fillShowing(set, shown);
        if (i == -1) {
            return many;
        }
        return i < many && i < shown.length ? shown[i] : NONE;
    }

    public int check(int paper, int set, int sheet, int i, int n) {
        Paper it = paperAt(paper);
        if (it == null || !isSet(set) || !Sheets.isNumber(sheet) || n != Paper.showingSize(set)) {
            return BAD;
        }
        int trouble = sheets.troubleAt(sheet, i, n);
        if (trouble != 0) {
            return finding(trouble);
        }
        int root = it.rootOfShowing(set, sheets.items[sheet], i);
        if (root < 0) {
            return BAD;
        }
        int key = keyOf(it);
        return found(seal(root, key) == seal(it.root(), key) ? 1 : 0);
    }

    public int lies(int paper, int field) {
        Paper it = paperAt(paper);
        if (it == null || !isField(field)) {
            return BAD;
        }
        int key = keyOf(it);
        int sealed = seal(it.root(), key);
        int many = 0;
        for (int value = 0; value <= MOST_VALUE; value++) {
            if (seal(it.rootWith(field, value), key) == sealed) {
                many++;
            }
        }
        return many;
    }

    public int over(int paper, int field, int b) {
        Paper it = paperAt(paper);
        if (it == null || !isField(field) || !within(b, 0, MOST_VALUE)) {
            return BAD;
        }
        int value = it.fields[field];
        return value < b ? STATE : steps(it.chainBeginning(field), value - b);
    }

    public int isOver(int paper, int field, int b, int number) {
        Paper it = paperAt(paper);
        if (it == null || !isField(field) || !within(b, 0, MOST_VALUE) || !within(number, 0, M - 1)) {
            return BAD;
        }
        return steps(number, b + 1) == it.chainEnd(field) ? 1 : 0;
    }

    // ---- who, friends

    public int secret(int bearer, int x) {
        if (!isBearer(bearer) || !within(x, 0, ORDER - 1)) {
            return BAD;
        }
        if (x != 0) {
            secrets[bearer] = x;
        }
        return signOf(bearer);
    }

    public int answer(int bearer, int r, int c, int what) {
        if (!isBearer(bearer) || !within(r, 0, ORDER - 1) || !within(c, 0, ORDER - 1) || !within(what, 0, 1)) {
            return BAD;
        }
        return what == 0 ? power(BASE, r) : (r + c * secrets[bearer]) % ORDER;
    }

    public int taken(int bearer, int t, int c, int s) {
        if (!isBearer(bearer) || !within(t, 0, GROUP - 1) || !within(c, 0, ORDER - 1) || !within(s, 0, ORDER - 1)) {
            return BAD;
        }
        return isTaken(bearer, t, c, s) ? 1 : 0;
    }

    public int odds(int bearer, int t, int s) {
        if (!isBearer(bearer) || !within(t, 0, GROUP - 1) || !within(s, 0, ORDER - 1)) {
            return BAD;
        }
        int many = 0;
        for (int c = 0; c < ORDER; c++) {
            if (isTaken(bearer, t, c, s)) {
                many++;
            }
        }
        return many;
    }

    public int part(int s, int k, int friend) {
        if (!within(s, 0, Circle.PRIME - 1) || !within(k, 1, Circle.MOST_NEEDED) || !within(friend, 1, Circle.FRIENDS)) {
            return BAD;
        }
        return Circle.partOf(s, k, friend);
    }

    public int friends(int sheet, int i, int n, int k) {
        if (!Sheets.isNumber(sheet) || !within(n, 1, Circle.FRIENDS) || !within(k, 0, Circle.MOST_NEEDED)) {
            return BAD;
        }
        int trouble = sheets.troubleAt(sheet, i, 2 * n);
        if (trouble != 0) {
            return finding(trouble);
        }
        if (!circle.take(sheets.items[sheet], i, n)) {
            return BAD;
        }
        return found(k == 0 ? circle.sumAt(0, n) : circle.possible(n, k));
    }

    // ---- doors

    public int book(int door, int day) {
        if (!isDoor(door) || !isDay(day)) {
            return BAD;
        }
        int was = gates.bookDays[door];
        gates.bookDays[door] = day;
        return was;
    }

    public int revoke(int paper, int day) {
        Paper it = paperAt(paper);
        if (it == null || !isDay(day)) {
            return BAD;
        }
        if (it.takenBackFrom != NEVER) {
            return STATE;
        }
        it.takenBackFrom = day;
        return 1;
    }

    public int holds(int paper, int door, int day) {
        Paper it = paperAt(paper);
        return it == null || !isDoor(door) || !isDay(day) ? BAD : whyNot(it, door, day);
    }

    public int feed(long w, int n) {
        if (!within(n, 1, 8)) {
            return BAD;
        }
        return tape.append(w, n) ? tape.size : FULL;
    }

    public int doors() {
        return tape.readAll(gates);
    }

    public int fault() {
        return tape.latestFault;
    }

    public int door(int door, int what) {
        if (!isDoor(door) || !within(what, 0, 2)) {
            return BAD;
        }
        if (what == 0) {
            return gates.askCounts[door];
        }
        return what == 1 ? gates.rights[door] : gates.asksTooMuch(door) ? 1 : 0;
    }

    public int least(int bearer, int door, int day, int what) {
        if (!isBearer(bearer) || !isDoor(door) || !isDay(day) || !within(what, 0, 1)) {
            return BAD;
        }
        int best = gates.asksTooMuch(door) ? NONE : lightest(bearer, door, day);
        if (best == NONE) {
            return NONE;
        }
        return what == 0 ? best % Choice.SETS : best / Choice.SETS;
    }

    public int seen(int door, int paper, int set) {
        if (!isDoor(door) || paperAt(paper) == null || !isSet(set)) {
            return BAD;
        }
        return sightings.add(paper, set) ? sightings.count : FULL;
    }

    public int together(int which) {
        // A negative number has bit 31, which no sighting has.
        if (which <= 0 || which >>> sightings.count != 0) {
            return BAD;
        }
        int bearers = (1 << BEARERS) - 1;
        for (int i = 0; i < sightings.count; i++) {
            if (hasBit(which, i)) {
                bearers &= couldHaveMade(sightings.papers[i], sightings.sets[i]);
            }
        }
        return bearers;
    }

    public int queue(int sheet, int i, int n, int k) {
        if (!Sheets.isNumber(sheet) || !within(n, 1, Line.MOST_WORKS) || !within(k, -1, n - 1)) {
            return BAD;
        }
        int trouble = sheets.troubleAt(sheet, i, 2 * n);
        if (trouble != 0) {
            return finding(trouble);
        }
        if (!line.take(sheets.items[sheet], i, n)) {
            return BAD;
        }
        line.findBest();
        return found(k == -1 ? line.bestSum : line.bestOrder[k]);
    }

    // ---- asked

    public int day(int day) {
        if (!isDay(day)) {
            return BAD;
        }
        int was = theDay;
        theDay = day;
        return was;
    }

    public int kind(int paper) {
        Paper it = paperAt(paper);
        return it == null ? BAD : it.kindOn(theDay);
    }

    public int as(int paper, int kind) {
        Paper it = paperAt(paper);
        if (it == null || !within(kind, PAPER_KIND, GONE_KIND)) {
            return BAD;
        }
        int own = it.kindOn(theDay);
        boolean such = kind == PAPER_KIND || kind == own || kind == STAMP_KIND && own == SHORT_KIND;
        return such ? found(it.office) : finding(KIND);
    }

    public int ask(int paper, int what) {
        Paper it = paperAt(paper);
        if (it == null || !within(what, 0, 1)) {
            return BAD;
        }
        bodies.traceCount = 0;
        int own = it.kindOn(theDay);
        return what == 0 ? bodies.sizeOf(it, own) : bodies.markOf(it, own);
    }

    public int trace(int i) {
        return i >= 0 && i < bodies.traceCount ? bodies.traced[i] : NONE;
    }

    public int count(int what) {
        switch (what) {
            case 0: return sheets.present();
            case 1: return paperCount;
            case 2: return goneCount();
            case 3: return offices.allKeys();
            case 4: return sightings.count;
            case 5: return tape.size;
            default: return BAD;
        }
    }

    public int status() {
        return latestFinding;
    }

    // ---- answers and what is as told

    private int finding(int number) {
        latestFinding = number;
        return FOUND - number;
    }

    private int found(int answer) {
        latestFinding = 0;
        return answer;
    }

    private static boolean within(int number, int low, int high) {
        return number >= low && number <= high;
    }

    private static boolean hasBit(int set, int bit) {
        return (set >> bit & 1) == 1;
    }

    private static boolean isOffice(int number) {
        return within(number, 0, OFFICES - 1);
    }

    private static boolean isBearer(int number) {
        return within(number, 0, BEARERS - 1);
    }

    private static boolean isDoor(int number) {
        return within(number, 0, DOORS - 1);
    }

    private static boolean isField(int number) {
        return within(number, 0, FIELDS - 1);
    }

    private static boolean isDay(int number) {
        return within(number, 0, LAST_DAY);
    }

    private static boolean isSet(int number) {
        return within(number, 0, LAST_SET);
    }

    private Paper paperAt(int number) {
        return number >= 0 && number < paperCount && number < PAPERS ? papers[number] : null;
    }

    // ---- sums

    private static int join(int a, int b) {
        return (int) (((long) a * a + 3L * b + 5) % M);
    }

    private static int steps(int from, int many) {
        long x = from;
        for (int i = 0; i < many; i++) {
            x = (x * x + 3) % M;
        }
        return (int) x;
    }

    private static int power(int base, int exponent) {
        int result = 1;
        for (int i = 0; i < exponent; i++) {
            result = result * base % GROUP;
        }
        return result;
    }

    private static int seal(int root, int key) {
        return (int) (((long) root * key + 1) % M);
    }

    /** Looked up anew each time: a key told later may be the one of a paper's first day. */
    private int keyOf(Paper it) {
        return offices.keyAt(it.office, it.first);
    }

    private int signOf(int bearer) {
        return power(BASE, secrets[bearer]);
    }

    private boolean isTaken(int bearer, int t, int c, int s) {
        return power(BASE, s) == t * power(signOf(bearer), c) % GROUP;
    }

    // ---- papers at doors

    private int whyNot(Paper it, int door, int day) {
        int book = gates.bookDays[door];
        int known = Math.min(book, day);
        if (day < it.first) {
            return 1;
        }
        if (day > it.last) {
            return 2;
        }
        if (it.takenBackFrom <= known) {
            return 3;
        }
        if (offices.endsOn[it.office] <= known) {
            return 4;
        }
        int burnt = offices.burntFrom[it.office];
        return burnt <= book && it.first >= burnt ? 5 : 0;
    }

    private int lightest(int bearer, int door, int day) {
        choice.begin(gates.askCounts[door]);
        for (int p = 0; p < paperCount; p++) {
            Paper it = paperAt(p);
            if (it != null && it.bearer == bearer && whyNot(it, door, day) == 0) {
                choice.offer(p, gates.fittedBy(it, door));
            }
        }
        return choice.best();
    }

    private int couldHaveMade(int paper, int set) {
        Paper shownOne = paperAt(paper);
        int bearers = 0;
        for (int p = 0; p < paperCount; p++) {
            Paper it = paperAt(p);
            if (it != null && shownOne != null && it.looksLike(shownOne, set)) {
                bearers |= 1 << it.bearer;
            }
        }
        return bearers;
    }

    private int goneCount() {
        int many = 0;
        for (int p = 0; p < paperCount; p++) {
            Paper it = paperAt(p);
            if (it != null && it.kindOn(theDay) == GONE_KIND) {
                many++;
            }
        }
        return many;
    }

    /** The eight sheets; a sheet of size MISSING is not there. */
    private static final class Sheets {
        static final int COUNT = 8, MOST_ITEMS = 60, LAST_LANE = 2, MISSING = -1;

        final int[][] items = new int[COUNT][MOST_ITEMS];
        final int[] lanes = new int[COUNT];
        final int[] sizes = new int[COUNT];

        Sheets() {
            Arrays.fill(sizes, MISSING);
        }

        static boolean isNumber(int sheet) {
            return within(sheet, 0, COUNT - 1);
        }

        boolean isMissing(int sheet) {
            return sizes[sheet] == MISSING;
        }

        /** Written as a difference, since i and n together may go beyond what an int holds. */
        boolean reaches(int sheet, int i, int n) {
            return i >= 0 && n >= 0 && i <= sizes[sheet] - n;
        }

        /** The finding that stands against n items from i on, or 0. */
        int troubleAt(int sheet, int i, int n) {
            if (isMissing(sheet)) {
                return NULL;
            }
            return reaches(sheet, i, n) ? 0 : PLACE;
        }

        void make(int sheet, int lane, int n) {
            lanes[sheet] = lane;
            sizes[sheet] = n;
            Arrays.fill(items[sheet], 0);
        }

        int put(int sheet, int i, int v) {
            int lane = lanes[sheet];
            int kept = lane == 0 ? (byte) v : lane == 1 ? (short) v : v;
            items[sheet][i] = kept;
            return kept;
        }

        int forget(int sheet) {
            int had = sizes[sheet];
            sizes[sheet] = MISSING;
            return had;
        }

        int present() {
            int many = 0;
            for (int sheet = 0; sheet < COUNT; sheet++) {
                if (!isMissing(sheet)) {
                    many++;
                }
            }
            return many;
        }
    }

    /** The offices' keys, and the days from which they are burnt or at an end. */
    private static final class Offices {
        static final int MOST_KEYS = 6, FIRST_KEY = 100;

        final int[][] keyDays = new int[OFFICES][MOST_KEYS];
        final int[][] keys = new int[OFFICES][MOST_KEYS];
        final int[] keyCounts = new int[OFFICES];
        final int[] burntFrom = new int[OFFICES];
        final int[] endsOn = new int[OFFICES];

        Offices() {
            Arrays.fill(burntFrom, NEVER);
            Arrays.fill(endsOn, NEVER);
        }

        boolean addKey(int office, int day, int key) {
            int many = keyCounts[office];
            if (many >= MOST_KEYS) {
                return false;
            }
            keyDays[office][many] = day;
            keys[office][many] = key;
            keyCounts[office] = many + 1;
            return true;
        }

        /** Keys are gone through as they were told, so that of one day the last told stays. */
        int keyAt(int office, int day) {
            int key = FIRST_KEY + office;
            int from = 0;
            for (int i = 0; i < keyCounts[office]; i++) {
                int keyDay = keyDays[office][i];
                if (keyDay >= from && keyDay <= day) {
                    from = keyDay;
                    key = keys[office][i];
                }
            }
            return key;
        }

        int allKeys() {
            int many = 0;
            for (int office = 0; office < OFFICES; office++) {
                many += keyCounts[office];
            }
            return many;
        }
    }

    /** A paper as it was told, and the sums that come of its number and fields alone. */
    private static final class Paper {
        static final int ITEMS = 9, FIRST_FIELD = 5;
        private static final int FIRST_DAY_ITEM = 3, LAST_DAY_ITEM = 4;
        private static final int[] LIMITS = {
            OFFICES - 1, BEARERS - 1, LENT_KIND, LAST_DAY, LAST_DAY, MOST_VALUE, MOST_VALUE, MOST_VALUE, MOST_VALUE
        };

        final int number;
        final int office;
        final int bearer;
        final int sort;
        final int first;
        final int last;
        final int[] fields = new int[FIELDS];
        int takenBackFrom = NEVER;

        Paper(int number, int[] items, int at) {
            this.number = number;
            office = items[at];
            bearer = items[at + 1];
            sort = items[at + 2];
            first = items[at + FIRST_DAY_ITEM];
            last = items[at + LAST_DAY_ITEM];
            System.arraycopy(items, at + FIRST_FIELD, fields, 0, FIELDS);
        }

        /** A day that lies ahead of the first is not the last, so such an item is not as told. */
        static boolean isTold(int[] items, int at) {
            for (int i = 0; i < ITEMS; i++) {
                if (!within(items[at + i], 0, LIMITS[i])) {
                    return false;
                }
            }
            return items[at + FIRST_DAY_ITEM] <= items[at + LAST_DAY_ITEM];
        }

        int leafWith(int field, int value) {
            return (31 * value + 7 * number + field) % M;
        }

        int leaf(int field) {
            return leafWith(field, fields[field]);
        }

        int half(int which) {
            return join(leaf(2 * which), leaf(2 * which + 1));
        }

        int root() {
            return join(half(0), half(1));
        }

        /** The root that would come of another value in one field. */
        int rootWith(int field, int value) {
            int other = leafWith(field, value);
            switch (field) {
                case 0: return join(join(other, leaf(1)), half(1));
                case 1: return join(join(leaf(0), other), half(1));
                case 2: return join(half(0), join(other, leaf(3)));
                default: return join(half(0), join(leaf(2), other));
            }
        }

        static boolean showsOfHalf(int set, int which) {
            return (set >> 2 * which & 3) != 0;
        }

        static int halfSize(int set, int which) {
            return showsOfHalf(set, which) ? 2 : 1;
        }

        static int showingSize(int set) {
            return halfSize(set, 0) + halfSize(set, 1);
        }

        int fillShowing(int set, int[] row) {
            int many = 0;
            for (int which = 0; which < 2; which++) {
                if (showsOfHalf(set, which)) {
                    row[many] = shownOf(set, 2 * which);
                    row[many + 1] = shownOf(set, 2 * which + 1);
                } else {
                    row[many] = half(which);
                }
                many += halfSize(set, which);
            }
            return many;
        }

        private int shownOf(int set, int field) {
            return hasBit(set, field) ? fields[field] : leaf(field);
        }

        /** The root made of a showing's numbers, or -1 where one of them cannot be such a number. */
        int rootOfShowing(int set, int[] items, int at) {
            int left = halfOfShowing(set, 0, items, at);
            int right = halfOfShowing(set, 1, items, at + halfSize(set, 0));
            return left < 0 || right < 0 ? -1 : join(left, right);
        }

        private int halfOfShowing(int set, int which, int[] items, int at) {
            if (!showsOfHalf(set, which)) {
                return within(items[at], 0, M - 1) ? items[at] : -1;
            }
            int a = leafOfShown(set, 2 * which, items[at]);
            int b = leafOfShown(set, 2 * which + 1, items[at + 1]);
            return a < 0 || b < 0 ? -1 : join(a, b);
        }

        private int leafOfShown(int set, int field, int item) {
            if (hasBit(set, field)) {
                return within(item, 0, MOST_VALUE) ? leafWith(field, item) : -1;
            }
            return within(item, 0, M - 1) ? item : -1;
        }

        int chainBeginning(int field) {
            return 101 * number + 17 * field + 1;
        }

        int chainEnd(int field) {
            return steps(chainBeginning(field), fields[field] + 1);
        }

        /** Being gone hides the sort; the sorts' numbers are those of their kinds. */
        int kindOn(int day) {
            return takenBackFrom <= day ? GONE_KIND : sort;
        }

        boolean looksLike(Paper other, int set) {
            if (office != other.office) {
                return false;
            }
            for (int field = 0; field < FIELDS; field++) {
                if (hasBit(set, field) && fields[field] != other.fields[field]) {
                    return false;
                }
            }
            return true;
        }
    }

    /** Friends with their parts of a secret number. */
    private static final class Circle {
        static final int PRIME = 257, FRIENDS = 6, MOST_NEEDED = 4;

        private final int[] numbers = new int[FRIENDS];
        private final int[] parts = new int[FRIENDS];

        static int partOf(int s, int needed, int friend) {
            int sum = s;
            int raised = 1;
            for (int j = 1; j < needed; j++) {
                raised = raised * friend % PRIME;
                sum = (sum + (s * (j + 3) + 11 * j + 5) % PRIME * raised) % PRIME;
            }
            return sum;
        }

        /** Takes n friends with their parts; false where a number is wrong or a friend comes twice. */
        boolean take(int[] items, int at, int n) {
            int met = 0;
            for (int i = 0; i < n; i++) {
                int friend = items[at + 2 * i];
                int part = items[at + 2 * i + 1];
                if (!within(friend, 1, FRIENDS) || !within(part, 0, PRIME - 1) || hasBit(met, friend)) {
                    return false;
                }
                met |= 1 << friend;
                numbers[i] = friend;
                parts[i] = part;
            }
            return true;
        }

        /** The value at x of the only sum of n - 1 powers at most that has the first n parts. */
        int sumAt(int x, int n) {
            int sum = 0;
            for (int i = 0; i < n; i++) {
                int above = parts[i];
                int below = 1;
                for (int j = 0; j < n; j++) {
                    if (j != i) {
                        above = above * Math.floorMod(x - numbers[j], PRIME) % PRIME;
                        below = below * Math.floorMod(numbers[i] - numbers[j], PRIME) % PRIME;
                    }
                }
                sum = (sum + above * inverse(below)) % PRIME;
            }
            return sum;
        }

        /** PRIME is a prime, so a number to the power PRIME - 2 undoes the number. */
        private static int inverse(int number) {
            int result = 1;
            for (int i = 0; i < PRIME - 2; i++) {
                result = result * number % PRIME;
            }
            return result;
        }

        int possible(int n, int needed) {
            if (n < needed) {
                return PRIME;
            }
            for (int i = needed; i < n; i++) {
                if (sumAt(numbers[i], needed) != parts[i]) {
                    return 0;
                }
            }
            return 1;
        }
    }

    /** What the doors know, ask and may ask. */
    private static final class Gates {
        static final int MOST_ASKS = 8;
        static final int FROM = 0, FIELD = 1, OVER = 2;

        final int[] bookDays = new int[DOORS];
        final int[] rights = new int[DOORS];
        final int[] askCounts = new int[DOORS];
        private final int[][] whats = new int[DOORS][MOST_ASKS];
        private final int[][] wheres = new int[DOORS][MOST_ASKS];
        private final int[][] bounds = new int[DOORS][MOST_ASKS];

        Gates() {
            Arrays.fill(rights, LAST_SET);
        }

        /** An ask of an office (FROM) or of a field, the bound being 0 where none is told. */
        void addAsk(int door, int what, int where, int bound) {
            int many = askCounts[door];
            if (many < MOST_ASKS) {
                whats[door][many] = what;
                wheres[door][many] = where;
                bounds[door][many] = bound;
                askCounts[door] = many + 1;
            }
        }

        boolean asksTooMuch(int door) {
            for (int i = 0; i < askCounts[door]; i++) {
                if (whats[door][i] != FROM && !hasBit(rights[door], wheres[door][i])) {
                    return true;
                }
            }
            return false;
        }

        /** The asks of a door that a paper fits, as bits. */
        int fittedBy(Paper it, int door) {
            int fitted = 0;
            for (int i = 0; i < askCounts[door]; i++) {
                if (isFitted(it, whats[door][i], wheres[door][i], bounds[door][i])) {
                    fitted |= 1 << i;
                }
            }
            return fitted;
        }

        private static boolean isFitted(Paper it, int what, int where, int bound) {
            if (what == FROM) {
                return it.office == where;
            }
            return what == FIELD || it.fields[where] >= bound;
        }
    }

    /** The tape of doors' texts and its reading, first without doing anything, then doing it. */
    private static final class Tape {
        private static final int MOST_BYTES = 300, MOST_FIGURES = 3, FAULT = -1000100;
        private static final int END = 0, NAME = 1, NUMBER = 2, STOP = 3, NO_TOKEN = 4;
        private static final int CANNOT_STAND = 1, NOT_AS_TOLD = 2, ONE_ASK_TOO_MANY = 3;

        private final byte[] bytes = new byte[MOST_BYTES];
        int size;
        int latestFault;
        private int faultPlace;
        private boolean doing;
        private int next;
        private int tokenStart;
        private int token;
        private int value;

        boolean append(long w, int n) {
            if (size > MOST_BYTES - n) {
                return false;
            }
            for (int i = n - 1; i >= 0; i--) {
                bytes[size] = (byte) (w >> 8 * i);
                size++;
            }
            return true;
        }

        int readAll(Gates gates) {
            doing = false;
            int texts = readTexts(gates);
            if (texts >= 0) {
                doing = true;
                readTexts(gates);
            }
            size = 0;
            return texts >= 0 ? texts : FAULT - faultPlace;
        }

        /** How many texts there are, -1 behind a fault. */
        private int readTexts(Gates gates) {
            next = 0;
            advance();
            int texts = 0;
            while (token != END && texts <= MOST_BYTES) {
                boolean good = isWord("door") ? readDoor(gates) : isWord("right") ? readRight(gates) : fail(CANNOT_STAND);
                if (!good) {
                    return -1;
                }
                texts++;
            }
            return texts;
        }

        private boolean readDoor(Gates gates) {
            advance();
            if (!expectNumber(DOORS - 1)) {
                return false;
            }
            int door = value;
            if (doing) {
                gates.askCounts[door] = 0;
            }
            advance();
            for (int asks = 0; asks <= Gates.MOST_ASKS && token != STOP; asks++) {
                if (!readAsk(gates, door, asks)) {
                    return false;
                }
            }
            return expectStop();
        }

        private boolean readAsk(Gates gates, int door, int asksBefore) {
            int what = isWord("from") ? Gates.FROM : isWord("field") ? Gates.FIELD : isWord("over") ? Gates.OVER : NONE;
            if (what == NONE) {
                return fail(CANNOT_STAND);
            }
            if (asksBefore >= Gates.MOST_ASKS) {
                return fail(ONE_ASK_TOO_MANY);
            }
            advance();
            if (!expectNumber(what == Gates.FROM ? OFFICES - 1 : FIELDS - 1)) {
                return false;
            }
            int where = value;
            int bound = 0;
            if (what == Gates.OVER) {
                advance();
                if (!expectNumber(MOST_VALUE)) {
                    return false;
                }
                bound = value;
            }
            if (doing) {
                gates.addAsk(door, what, where, bound);
            }
            advance();
            return true;
        }

        private boolean readRight(Gates gates) {
            advance();
            if (!expectNumber(DOORS - 1)) {
                return false;
            }
            int door = value;
            int rights = 0;
            advance();
            for (int i = 0; i <= MOST_BYTES && token == NUMBER; i++) {
                if (!expectNumber(FIELDS - 1)) {
                    return false;
                }
                rights |= 1 << value;
                advance();
            }
            if (doing) {
                gates.rights[door] = rights;
            }
            return expectStop();
        }

        private boolean expectNumber(int most) {
            if (token != NUMBER) {
                return fail(CANNOT_STAND);
            }
            return value <= most || fail(NOT_AS_TOLD);
        }

        private boolean expectStop() {
            if (token != STOP) {
                return fail(CANNOT_STAND);
            }
            advance();
            return true;
        }

        private boolean fail(int fault) {
            latestFault = fault;
            faultPlace = tokenStart;
            return false;
        }

        private void advance() {
            while (next < size && (bytes[next] == ' ' || bytes[next] == '\n')) {
                next++;
            }
            tokenStart = next;
            if (next >= size) {
                token = END;
            } else if (isLetter(bytes[next])) {
                readName();
            } else if (isFigure(bytes[next])) {
                readFigures();
            } else {
                token = bytes[next] == ';' ? STOP : NO_TOKEN;
                next++;
            }
        }

        private void readName() {
            while (next < size && isLetter(bytes[next])) {
                next++;
            }
            token = NAME;
        }

        /** Too many figures are no token at all, whatever number they would be. */
        private void readFigures() {
            value = 0;
            while (next < size && isFigure(bytes[next])) {
                value = 10 * value + bytes[next] - '0';
                next++;
            }
            token = next - tokenStart <= MOST_FIGURES ? NUMBER : NO_TOKEN;
        }

        private static boolean isLetter(byte sign) {
            return sign >= 'a' && sign <= 'z';
        }

        private static boolean isFigure(byte sign) {
            return sign >= '0' && sign <= '9';
        }

        private boolean isWord(String word) {
            if (token != NAME || next - tokenStart != word.length()) {
                return false;
            }
            for (int i = 0; i < word.length(); i++) {
                if (bytes[tokenStart + i] != word.charAt(i)) {
                    return false;
                }
            }
            return true;
        }
    }

    /** The lightest set of papers that fits a door's asks, grown paper by paper. */
    private static final class Choice {
        static final int SETS = 1 << PAPERS;

        /** By the asks fitted: the best set's weight times SETS and its number, so that the less is the better. */
        private final int[] bests = new int[1 << Gates.MOST_ASKS];
        private int states;

        void begin(int asks) {
            states = 1 << Math.min(asks, Gates.MOST_ASKS);
            Arrays.fill(bests, NONE);
            bests[0] = 0;
        }

        /** A paper joined to a set that has it already only makes it heavier, so one row serves. */
        void offer(int paper, int fitted) {
            int more = (1 + Integer.bitCount(fitted)) * SETS + (1 << paper);
            for (int state = 0; state < states; state++) {
                int reached = (state | fitted) & states - 1;
                int sum = bests[state] + more;
                if (bests[state] != NONE && (bests[reached] == NONE || sum < bests[reached])) {
                    bests[reached] = sum;
                }
            }
        }

        int best() {
            return bests[states - 1];
        }
    }

    /** What doors saw: by which paper and which of its fields. */
    private static final class Sightings {
        static final int MOST = 30;

        final int[] papers = new int[MOST];
        final int[] sets = new int[MOST];
        int count;

        boolean add(int paper, int set) {
            if (count >= MOST) {
                return false;
            }
            papers[count] = paper;
            sets[count] = set;
            count++;
            return true;
        }
    }

    /** Works that wait for one another. */
    private static final class Line {
        static final int MOST_WORKS = 7;
        private static final int LAST_COMING = 999, LONGEST = 99;

        private final int[] comings = new int[MOST_WORKS];
        private final int[] lengths = new int[MOST_WORKS];
        private final int[] order = new int[MOST_WORKS];
        final int[] bestOrder = new int[MOST_WORKS];
        int bestSum;
        private int works;

        boolean take(int[] items, int at, int n) {
            works = n;
            for (int i = 0; i < n; i++) {
                comings[i] = items[at + 2 * i];
                lengths[i] = items[at + 2 * i + 1];
                if (!within(comings[i], 0, LAST_COMING) || !within(lengths[i], 1, LONGEST)) {
                    return false;
                }
            }
            return true;
        }

        void findBest() {
            bestSum = Integer.MAX_VALUE;
            extend(0, 0, 0, 0);
        }

        /** Orders come as rows do, so only one that is truly better takes the place of another. */
        private void extend(int depth, int placed, int now, int sum) {
            if (depth >= works) {
                bestSum = sum;
                System.arraycopy(order, 0, bestOrder, 0, works);
                return;
            }
            for (int work = 0; work < works; work++) {
                if (!hasBit(placed, work)) {
                    int start = Math.max(now, comings[work]);
                    int end = start + lengths[work];
                    int after = sum + start - comings[work];
                    int with = placed | 1 << work;
                    order[depth] = work;
                    if (after + waitedAt(end, with) < bestSum) {
                        extend(depth + 1, with, end, after);
                    }
                }
            }
        }

        /** How long those not yet placed have waited by a time: no order can make it less. */
        private int waitedAt(int time, int placed) {
            int sum = 0;
            for (int work = 0; work < works; work++) {
                if (!hasBit(placed, work)) {
                    sum += Math.max(0, time - comings[work]);
                }
            }
            return sum;
        }
    }

    /** The bodies that answer asks; one that asks anew asks the same paper, so its kind is known there. */
    private static final class Bodies {
        private static final int MOST_TRACED = 16;

        final int[] traced = new int[MOST_TRACED];
        int traceCount;

        private void begin(int body) {
            if (traceCount < MOST_TRACED) {
                traced[traceCount] = body;
                traceCount++;
            }
        }

        int sizeOf(Paper it, int kind) {
            switch (kind) {
                case STAMP_KIND: return stampSize(it);
                case SHORT_KIND: return shortSize(it);
                case GRADE_KIND: return gradeSize(it);
                case GONE_KIND: return goneSize(it);
                default: return lentSize(it);
            }
        }

        int markOf(Paper it, int kind) {
            switch (kind) {
                case SHORT_KIND: return shortMark(it);
                case GRADE_KIND: return gradeMark(it);
                case LENT_KIND: return lentOnesMark(it);
                default: return lentMark(it);
            }
        }

        private int lentSize(Paper it) {
            begin(10);
            return it.last - it.first + 1;
        }

        private int stampSize(Paper it) {
            begin(11);
            return lentSize(it) + it.fields[0];
        }

        private int shortSize(Paper it) {
            begin(12);
            return 2 * stampSize(it);
        }

        private int gradeSize(Paper it) {
            begin(13);
            return lentSize(it) + gradeMark(it);
        }

        private int goneSize(Paper it) {
            begin(14);
            return -lentSize(it);
        }

        private int lentMark(Paper it) {
            begin(20);
            return it.number;
        }

        private int shortMark(Paper it) {
            begin(21);
            return lentMark(it) + shortSize(it);
        }

        private int gradeMark(Paper it) {
            begin(22);
            int[] fields = it.fields;
            int greatest = Math.max(Math.max(fields[0], fields[1]), Math.max(fields[2], fields[3]));
            return lentMark(it) + greatest;
        }

        private int lentOnesMark(Paper it) {
            begin(23);
            return lentMark(it) + 1000;
        }
    }
}
