import java.math.BigInteger;
import java.util.ArrayList;
import java.util.Arrays;
import java.util.List;
import java.util.regex.Matcher;
import java.util.regex.Pattern;

/**
 * The document's face once more, written from its words alone and as slowly as they are said: all sets, all orders,
 * all secret numbers are gone through, and KINDS are Java classes that ask one another. ModelTest compares.
 */
final class Model {
    private static final int NONE = -1000000, BAD = -1000001, STATE = -1000002, FULL = -1000003;
    private static final int NULL = 1, PLACE = 2, KIND = 3, SIZE = 4, STORE = 5;
    private static final int M = 65521;

    /** An ask of a door: its word, an office or a field, a bound. */
    private record Ask(String word, int where, int bound) { }

    private record Key(int day, int value) { }

    private record Seen(int paper, int set) { }

    private record Token(String text, int place) { }

    private final int[] lanes = new int[8];
    private final int[][] sheets = new int[8][];
    private final List<List<Key>> keys = new ArrayList<>();
    private final Integer[] burnt = new Integer[4];
    private final Integer[] ends = new Integer[4];
    private final List<int[]> papers = new ArrayList<>();
    private final List<Integer> takenBack = new ArrayList<>();
    private final int[] secrets = {2, 3, 4, 5, 6, 7};
    private final int[] bookDays = new int[4];
    private final StringBuilder tape = new StringBuilder();
    private final List<List<Ask>> asks = new ArrayList<>();
    private final int[] rights = {15, 15, 15, 15};
    private final List<Seen> seenOnes = new ArrayList<>();
    private final List<Integer> theTrace = new ArrayList<>();
    private int theDay;
    private int theFault;
    private int theStatus;

    Model() {
        for (int i = 0; i < 4; i++) {
            keys.add(new ArrayList<>(List.of(new Key(0, 100 + i))));
            asks.add(new ArrayList<>());
        }
    }

    private static boolean in(int number, int from, int to) {
        return from <= number && number <= to;
    }

    private boolean isPaper(int paper) {
        return in(paper, 0, papers.size() - 1);
    }

    private int found(int number) {
        theStatus = number;
        return -1000010 - number;
    }

    private int fine(int answer) {
        theStatus = 0;
        return answer;
    }

    // ---- sheets

    int sheet(int sheet, int lane, int n) {
        if (!in(sheet, 0, 7) || !in(lane, 0, 2) || n > 60) {
            return BAD;
        }
        if (n < 0) {
            return found(SIZE);
        }
        lanes[sheet] = lane;
        sheets[sheet] = new int[n];
        return fine(n);
    }

    /** NULL, PLACE or 0 of n items from i on. */
    private int trouble(int sheet, int i, int n) {
        if (sheets[sheet] == null) {
            return NULL;
        }
        return i < 0 || n < 0 || (long) i + n > sheets[sheet].length ? PLACE : 0;
    }

    int set(int sheet, int i, int v) {
        if (!in(sheet, 0, 7)) {
            return BAD;
        }
        if (trouble(sheet, i, 1) != 0) {
            return found(trouble(sheet, i, 1));
        }
        int unused = 32 - (8 << lanes[sheet]);
        sheets[sheet][i] = v << unused >> unused;
        return fine(sheets[sheet][i]);
    }

    int copy(int a, int i, int b, int j, int n) {
        if (!in(a, 0, 7) || !in(b, 0, 7)) {
            return BAD;
        }
        if (sheets[a] == null || sheets[b] == null) {
            return found(NULL);
        }
        if (lanes[a] != lanes[b]) {
            return found(STORE);
        }
        if (trouble(a, i, n) != 0 || trouble(b, j, n) != 0) {
            return found(PLACE);
        }
        int[] ahead = sheets[a].clone();
        for (int k = 0; k < n; k++) {
            sheets[b][j + k] = ahead[i + k];
        }
        return fine(n);
    }

    int drop(int sheet) {
        if (!in(sheet, 0, 7)) {
            return BAD;
        }
        if (sheets[sheet] == null) {
            return found(NULL);
        }
        int had = sheets[sheet].length;
        sheets[sheet] = null;
        return fine(had);
    }

    // ---- offices, papers

    int key(int office, int day, int v) {
        if (!in(office, 0, 3) || !in(day, 0, 999) || !in(v, 1, 65520)) {
            return BAD;
        }
        if (keys.get(office).size() > 6) {
            return FULL;
        }
        keys.get(office).add(new Key(day, v));
        return keys.get(office).size() - 1;
    }

    int keyOn(int office, int day) {
        if (!in(office, 0, 3) || !in(day, 0, 999)) {
            return BAD;
        }
        for (int from = day; ; from--) {
            for (int i = keys.get(office).size() - 1; i >= 0; i--) {
                if (keys.get(office).get(i).day == from) {
                    return keys.get(office).get(i).value;
                }
            }
        }
    }

    int close(int office, int what, int day) {
        if (!in(office, 0, 3) || !in(what, 0, 1) || !in(day, 0, 999)) {
            return BAD;
        }
        Integer[] row = what == 0 ? burnt : ends;
        if (row[office] != null) {
            return STATE;
        }
        row[office] = day;
        return 1;
    }

    int paper(int sheet, int i) {
        if (!in(sheet, 0, 7)) {
            return BAD;
        }
        if (papers.size() == 12) {
            return FULL;
        }
        if (trouble(sheet, i, 9) != 0) {
            return found(trouble(sheet, i, 9));
        }
        int[] p = Arrays.copyOfRange(sheets[sheet], i, i + 9);
        boolean good = in(p[0], 0, 3) && in(p[1], 0, 5) && in(p[2], 0, 4) && in(p[3], 0, 999) && in(p[4], p[3], 999);
        for (int field = 0; field < 4; field++) {
            good &= in(p[5 + field], 0, 999);
        }
        if (!good) {
            return BAD;
        }
        papers.add(p);
        takenBack.add(null);
        return fine(papers.size() - 1);
    }

    private static int join(long a, long b) {
        return (int) ((a * a + 3 * b + 5) % M);
    }

    private static int leaf(int paper, int field, int value) {
        return (31 * value + 7 * paper + field) % M;
    }

    private static int rootOfLeaves(int[] leaves) {
        return join(join(leaves[0], leaves[1]), join(leaves[2], leaves[3]));
    }

    private int[] leaves(int paper) {
        int[] row = new int[4];
        for (int field = 0; field < 4; field++) {
            row[field] = leaf(paper, field, papers.get(paper)[5 + field]);
        }
        return row;
    }

    private int sealOf(int paper, int root) {
        int[] p = papers.get(paper);
        return (int) (((long) root * keyOn(p[0], p[3]) + 1) % M);
    }

    private static int stepped(int from, int steps) {
        long x = from;
        for (int i = 0; i < steps; i++) {
            x = (x * x + 3) % M;
        }
        return (int) x;
    }

    private static int beginning(int paper, int field) {
        return 101 * paper + 17 * field + 1;
    }

    int told(int paper, int what) {
        if (!isPaper(paper) || !in(what, 0, 15)) {
            return BAD;
        }
        int[] p = papers.get(paper);
        int[] l = leaves(paper);
        int[] row = {p[5], p[6], p[7], p[8], join(l[0], l[1]), join(l[2], l[3]), rootOfLeaves(l), sealOf(paper, rootOfLeaves(l)),
            p[0], p[1], p[3], p[4], 0, 0, 0, 0};
        for (int field = 0; field < 4; field++) {
            row[12 + field] = stepped(beginning(paper, field), p[5 + field] + 1);
        }
        return row[what];
    }

    private List<Integer> showing(int paper, int set) {
        List<Integer> row = new ArrayList<>();
        for (int half = 0; half < 2; half++) {
            int a = 2 * half;
            int b = a + 1;
            boolean showsA = (set & 1 << a) != 0;
            boolean showsB = (set & 1 << b) != 0;
            if (showsA || showsB) {
                row.add(showsA ? papers.get(paper)[5 + a] : leaves(paper)[a]);
                row.add(showsB ? papers.get(paper)[5 + b] : leaves(paper)[b]);
            } else {
                row.add(join(leaves(paper)[a], leaves(paper)[b]));
            }
        }
        return row;
    }

    int show(int paper, int set, int i) {
        if (!isPaper(paper) || !in(set, 0, 15) || i < -1) {
            return BAD;
        }
        List<Integer> row = showing(paper, set);
        return i == -1 ? row.size() : i < row.size() ? row.get(i) : NONE;
    }

    int check(int paper, int set, int sheet, int i, int n) {
        if (!isPaper(paper) || !in(set, 0, 15) || !in(sheet, 0, 7) || n != showing(paper, set).size()) {
            return BAD;
        }
        if (trouble(sheet, i, n) != 0) {
            return found(trouble(sheet, i, n));
        }
        int at = i;
        int[] halves = new int[2];
        for (int half = 0; half < 2; half++) {
            if ((set >> 2 * half & 3) == 0) {
                halves[half] = sheets[sheet][at++];
                if (!in(halves[half], 0, 65520)) {
                    return BAD;
                }
                continue;
            }
            int[] pair = new int[2];
            for (int k = 0; k < 2; k++) {
                int field = 2 * half + k;
                boolean isValue = (set >> field & 1) == 1;
                int item = sheets[sheet][at++];
                if (!in(item, 0, isValue ? 999 : 65520)) {
                    return BAD;
                }
                pair[k] = isValue ? leaf(paper, field, item) : item;
            }
            halves[half] = join(pair[0], pair[1]);
        }
        return fine(sealOf(paper, join(halves[0], halves[1])) == told(paper, 7) ? 1 : 0);
    }

    int lies(int paper, int field) {
        if (!isPaper(paper) || !in(field, 0, 3)) {
            return BAD;
        }
        int many = 0;
        int seal = told(paper, 7);
        for (int value = 0; value <= 999; value++) {
            int[] row = leaves(paper);
            row[field] = leaf(paper, field, value);
            many += sealOf(paper, rootOfLeaves(row)) == seal ? 1 : 0;
        }
        return many;
    }

    int over(int paper, int field, int b) {
        if (!isPaper(paper) || !in(field, 0, 3) || !in(b, 0, 999)) {
            return BAD;
        }
        int value = papers.get(paper)[5 + field];
        return value < b ? STATE : stepped(beginning(paper, field), value - b);
    }

    int isOver(int paper, int field, int b, int number) {
        if (!isPaper(paper) || !in(field, 0, 3) || !in(b, 0, 999) || !in(number, 0, 65520)) {
            return BAD;
        }
        return stepped(number, b + 1) == told(paper, 12 + field) ? 1 : 0;
    }

    // ---- who, friends

    private static int power(int base, int exponent) {
        return BigInteger.valueOf(base).pow(exponent).mod(BigInteger.valueOf(47)).intValue();
    }

    int secret(int bearer, int x) {
        if (!in(bearer, 0, 5) || !in(x, 0, 22)) {
            return BAD;
        }
        secrets[bearer] = x == 0 ? secrets[bearer] : x;
        return power(4, secrets[bearer]);
    }

    int answer(int bearer, int r, int c, int what) {
        if (!in(bearer, 0, 5) || !in(r, 0, 22) || !in(c, 0, 22) || !in(what, 0, 1)) {
            return BAD;
        }
        return what == 0 ? power(4, r) : (r + c * secrets[bearer]) % 23;
    }

    int taken(int bearer, int t, int c, int s) {
        if (!in(bearer, 0, 5) || !in(t, 0, 46) || !in(c, 0, 22) || !in(s, 0, 22)) {
            return BAD;
        }
        return power(4, s) == t * power(power(4, secrets[bearer]), c) % 47 ? 1 : 0;
    }

    int odds(int bearer, int t, int s) {
        if (!in(bearer, 0, 5) || !in(t, 0, 46) || !in(s, 0, 22)) {
            return BAD;
        }
        int many = 0;
        for (int c = 0; c <= 22; c++) {
            many += taken(bearer, t, c, s);
        }
        return many;
    }

    int part(int s, int k, int friend) {
        if (!in(s, 0, 256) || !in(k, 1, 4) || !in(friend, 1, 6)) {
            return BAD;
        }
        long sum = s;
        for (int j = 1; j <= k - 1; j++) {
            long aj = (s * (j + 3) + 11 * j + 5) % 257;
            sum += aj * BigInteger.valueOf(friend).pow(j).longValue();
        }
        return (int) (sum % 257);
    }

    int friends(int sheet, int i, int n, int k) {
        if (!in(sheet, 0, 7) || !in(n, 1, 6) || !in(k, 0, 4)) {
            return BAD;
        }
        if (trouble(sheet, i, 2 * n) != 0) {
            return found(trouble(sheet, i, 2 * n));
        }
        int[] row = Arrays.copyOfRange(sheets[sheet], i, i + 2 * n);
        for (int a = 0; a < n; a++) {
            if (!in(row[2 * a], 1, 6) || !in(row[2 * a + 1], 0, 256)) {
                return BAD;
            }
            for (int b = 0; b < a; b++) {
                if (row[2 * a] == row[2 * b]) {
                    return BAD;
                }
            }
        }
        int many = 0;
        int last = 0;
        for (int s = 0; s <= 256; s++) {
            if (hasSome(s, row, k == 0 ? n - 1 : k - 1)) {
                many++;
                last = s;
            }
        }
        return fine(k == 0 ? last : many);
    }

    /** Whether some a1, a2, .. make a sum with s at 0 that has all the parts: rows are taken from one another till none is left. */
    private static boolean hasSome(int s, int[] row, int powers) {
        int n = row.length / 2;
        int[][] m = new int[n][powers + 1];
        for (int a = 0; a < n; a++) {
            for (int j = 0; j < powers; j++) {
                m[a][j] = BigInteger.valueOf(row[2 * a]).pow(j + 1).mod(BigInteger.valueOf(257)).intValue();
            }
            m[a][powers] = Math.floorMod(row[2 * a + 1] - s, 257);
        }
        int done = 0;
        for (int j = 0; j < powers; j++) {
            int pivot = done;
            while (pivot < n && m[pivot][j] == 0) {
                pivot++;
            }
            if (pivot == n) {
                continue;
            }
            int[] swap = m[pivot];
            m[pivot] = m[done];
            m[done] = swap;
            for (int a = done + 1; a < n; a++) {
                int times = m[a][j];
                for (int c = 0; c <= powers; c++) {
                    m[a][c] = Math.floorMod(m[a][c] * m[done][j] - times * m[done][c], 257);
                }
            }
            done++;
        }
        for (int a = done; a < n; a++) {
            if (m[a][powers] != 0) {
                return false;
            }
        }
        return true;
    }

    // ---- doors

    int book(int door, int day) {
        if (!in(door, 0, 3) || !in(day, 0, 999)) {
            return BAD;
        }
        int was = bookDays[door];
        bookDays[door] = day;
        return was;
    }

    int revoke(int paper, int day) {
        if (!isPaper(paper) || !in(day, 0, 999)) {
            return BAD;
        }
        if (takenBack.get(paper) != null) {
            return STATE;
        }
        takenBack.set(paper, day);
        return 1;
    }

    int holds(int paper, int door, int day) {
        if (!isPaper(paper) || !in(door, 0, 3) || !in(day, 0, 999)) {
            return BAD;
        }
        int[] p = papers.get(paper);
        int book = bookDays[door];
        Integer back = takenBack.get(paper);
        Integer end = ends[p[0]];
        Integer fire = burnt[p[0]];
        boolean[] reasons = {
            day < p[3],
            day > p[4],
            back != null && back <= book && back <= day,
            end != null && end <= book && end <= day,
            fire != null && fire <= book && p[3] >= fire,
        };
        for (int i = 0; i < 5; i++) {
            if (reasons[i]) {
                return i + 1;
            }
        }
        return 0;
    }

    int feed(long w, int n) {
        if (!in(n, 1, 8)) {
            return BAD;
        }
        if (tape.length() + n > 300) {
            return FULL;
        }
        byte[] eight = java.nio.ByteBuffer.allocate(8).putLong(w).array();
        for (int i = 8 - n; i < 8; i++) {
            tape.append((char) (eight[i] & 255));
        }
        return tape.length();
    }

    int doors() {
        List<Token> tokens = new ArrayList<>();
        Matcher matcher = Pattern.compile("[a-z]+|[0-9]+|[^a-z0-9 \n]").matcher(tape);
        while (matcher.find()) {
            tokens.add(new Token(matcher.group(), matcher.start()));
        }
        tokens.add(new Token("", tape.length()));
        tape.setLength(0);
        return new Reading().read(tokens);
    }

    /** What may stand next; a text is gone through token by token, and done only when all is read. */
    private enum Next { TEXT, DOOR, ASK, OFFICE, SHOWN, BOUNDED, BOUND, RIGHT, MAY }

    private final class Reading {
        private final List<List<Ask>> newAsks = new ArrayList<>();
        private final int[] newRights = rights.clone();
        private Next next = Next.TEXT;
        private int door;
        private int field;
        private int texts;

        int read(List<Token> tokens) {
            for (List<Ask> row : asks) {
                newAsks.add(new ArrayList<>(row));
            }
            for (Token token : tokens) {
                int fault = take(token.text);
                if (fault != 0) {
                    theFault = fault;
                    return -1000100 - token.place;
                }
            }
            for (int i = 0; i < 4; i++) {
                asks.set(i, newAsks.get(i));
                rights[i] = newRights[i];
            }
            return texts;
        }

        /** The fault of a token, or 0. */
        private int take(String token) {
            boolean isNumber = token.matches("[0-9]{1,3}");
            int number = isNumber ? Integer.parseInt(token) : -1;
            switch (next) {
                case TEXT:
                    if (token.isEmpty()) {
                        return 0;
                    }
                    texts++;
                    return go(token.equals("door") ? Next.DOOR : token.equals("right") ? Next.RIGHT : null);
                case ASK:
                    return takeAskWord(token);
                case MAY:
                    if (token.equals(";")) {
                        return go(Next.TEXT);
                    }
                    break;
                default:
                    break;
            }
            if (!isNumber) {
                return 1;
            }
            if (number > (next == Next.BOUND ? 999 : 3)) {
                return 2;
            }
            return takeNumber(number);
        }

        private int go(Next to) {
            next = to;
            return to == null ? 1 : 0;
        }

        private int takeAskWord(String token) {
            switch (token) {
                case ";": return go(Next.TEXT);
                case "from": go(Next.OFFICE); break;
                case "field": go(Next.SHOWN); break;
                case "over": go(Next.BOUNDED); break;
                default: return 1;
            }
            return newAsks.get(door).size() == 8 ? 3 : 0;
        }

        private int takeNumber(int number) {
            switch (next) {
                case DOOR:
                    door = number;
                    newAsks.get(door).clear();
                    return go(Next.ASK);
                case OFFICE:
                    newAsks.get(door).add(new Ask("from", number, 0));
                    return go(Next.ASK);
                case SHOWN:
                    newAsks.get(door).add(new Ask("field", number, 0));
                    return go(Next.ASK);
                case BOUNDED:
                    field = number;
                    return go(Next.BOUND);
                case BOUND:
                    newAsks.get(door).add(new Ask("over", field, number));
                    return go(Next.ASK);
                case RIGHT:
                    door = number;
                    newRights[door] = 0;
                    return go(Next.MAY);
                default:
                    newRights[door] |= 1 << number;
                    return 0;
            }
        }
    }

    int fault() {
        return theFault;
    }

    private boolean tooMuch(int door) {
        return asks.get(door).stream().anyMatch(a -> !a.word.equals("from") && (rights[door] & 1 << a.where) == 0);
    }

    int door(int door, int what) {
        if (!in(door, 0, 3) || !in(what, 0, 2)) {
            return BAD;
        }
        return new int[] {asks.get(door).size(), rights[door], tooMuch(door) ? 1 : 0}[what];
    }

    private boolean fits(int paper, Ask ask) {
        int[] p = papers.get(paper);
        switch (ask.word) {
            case "from": return p[0] == ask.where;
            case "field": return true;
            default: return p[5 + ask.where] >= ask.bound;
        }
    }

    int least(int bearer, int door, int day, int what) {
        if (!in(bearer, 0, 5) || !in(door, 0, 3) || !in(day, 0, 999) || !in(what, 0, 1)) {
            return BAD;
        }
        if (tooMuch(door)) {
            return NONE;
        }
        int best = NONE;
        int bestWeight = NONE;
        for (int set = 0; set < 1 << papers.size(); set++) {
            int weight = weightIfEnough(set, bearer, door, day);
            if (weight >= 0 && (best == NONE || weight < bestWeight)) {
                best = set;
                bestWeight = weight;
            }
        }
        return what == 0 ? best : bestWeight;
    }

    private int weightIfEnough(int set, int bearer, int door, int day) {
        int weight = 0;
        int fitted = 0;
        List<Ask> row = asks.get(door);
        for (int p = 0; p < papers.size(); p++) {
            if ((set & 1 << p) == 0) {
                continue;
            }
            if (papers.get(p)[1] != bearer || holds(p, door, day) != 0) {
                return -1;
            }
            weight++;
            for (int a = 0; a < row.size(); a++) {
                if (fits(p, row.get(a))) {
                    weight++;
                    fitted |= 1 << a;
                }
            }
        }
        return fitted == (1 << row.size()) - 1 ? weight : -1;
    }

    int seen(int door, int paper, int set) {
        if (!in(door, 0, 3) || !isPaper(paper) || !in(set, 0, 15)) {
            return BAD;
        }
        if (seenOnes.size() == 30) {
            return FULL;
        }
        seenOnes.add(new Seen(paper, set));
        return seenOnes.size();
    }

    private boolean could(int bearer, Seen one) {
        int[] shown = papers.get(one.paper);
        for (int[] p : papers) {
            boolean same = p[1] == bearer && p[0] == shown[0];
            for (int field = 0; field < 4; field++) {
                same &= (one.set & 1 << field) == 0 || p[5 + field] == shown[5 + field];
            }
            if (same) {
                return true;
            }
        }
        return false;
    }

    int together(int which) {
        if (which == 0) {
            return BAD;
        }
        int bearers = 63;
        for (int bit = 0; bit < 32; bit++) {
            if ((which & 1 << bit) == 0) {
                continue;
            }
            if (bit >= seenOnes.size()) {
                return BAD;
            }
            for (int bearer = 0; bearer < 6; bearer++) {
                if (!could(bearer, seenOnes.get(bit))) {
                    bearers &= ~(1 << bearer);
                }
            }
        }
        return bearers;
    }

    int queue(int sheet, int i, int n, int k) {
        if (!in(sheet, 0, 7) || !in(n, 1, 7) || !in(k, -1, n - 1)) {
            return BAD;
        }
        if (trouble(sheet, i, 2 * n) != 0) {
            return found(trouble(sheet, i, 2 * n));
        }
        int[] row = Arrays.copyOfRange(sheets[sheet], i, i + 2 * n);
        for (int a = 0; a < n; a++) {
            if (!in(row[2 * a], 0, 999) || !in(row[2 * a + 1], 1, 99)) {
                return BAD;
            }
        }
        int[] best = null;
        int bestSum = 0;
        int[] order = new int[n];
        for (int a = 0; a < n; a++) {
            order[a] = a;
        }
        do {
            int sum = waiting(row, order);
            if (best == null || sum < bestSum) {
                best = order.clone();
                bestSum = sum;
            }
        } while (nextOrder(order));
        return fine(k == -1 ? bestSum : best[k]);
    }

    private static int waiting(int[] row, int[] order) {
        int free = 0;
        int sum = 0;
        for (int work : order) {
            int begin = Math.max(free, row[2 * work]);
            sum += begin - row[2 * work];
            free = begin + row[2 * work + 1];
        }
        return sum;
    }

    /** The next order as a row; false behind the last. */
    private static boolean nextOrder(int[] order) {
        int i = order.length - 2;
        while (i >= 0 && order[i] > order[i + 1]) {
            i--;
        }
        if (i < 0) {
            return false;
        }
        int j = order.length - 1;
        while (order[j] < order[i]) {
            j--;
        }
        int swap = order[i];
        order[i] = order[j];
        order[j] = swap;
        Arrays.sort(order, i + 1, order.length);
        return true;
    }

    // ---- asked

    private class APaper {
        final int paper;
        final int[] p;

        APaper(int paper) {
            this.paper = paper;
            this.p = papers.get(paper);
        }

        int size() {
            theTrace.add(10);
            return p[4] - p[3] + 1;
        }

        int mark() {
            theTrace.add(20);
            return paper;
        }
    }

    private class AStamp extends APaper {
        AStamp(int paper) {
            super(paper);
        }

        @Override int size() {
            theTrace.add(11);
            return super.size() + p[5];
        }
    }

    private final class AShort extends AStamp {
        AShort(int paper) {
            super(paper);
        }

        @Override int size() {
            theTrace.add(12);
            return super.size() * 2;
        }

        @Override int mark() {
            theTrace.add(21);
            return super.mark() + size();
        }
    }

    private final class AGrade extends APaper {
        AGrade(int paper) {
            super(paper);
        }

        @Override int size() {
            theTrace.add(13);
            return super.size() + mark();
        }

        @Override int mark() {
            theTrace.add(22);
            return super.mark() + Arrays.stream(p, 5, 9).max().getAsInt();
        }
    }

    private final class ALent extends APaper {
        ALent(int paper) {
            super(paper);
        }

        @Override int mark() {
            theTrace.add(23);
            return super.mark() + 1000;
        }
    }

    private final class AGone extends APaper {
        AGone(int paper) {
            super(paper);
        }

        @Override int size() {
            theTrace.add(14);
            return 0 - super.size();
        }
    }

    private static final List<Class<? extends APaper>> KINDS =
        List.of(APaper.class, AStamp.class, AShort.class, AGrade.class, ALent.class, AGone.class);

    private APaper taken(int paper) {
        if (takenBack.get(paper) != null && takenBack.get(paper) <= theDay) {
            return new AGone(paper);
        }
        switch (papers.get(paper)[2]) {
            case 1: return new AStamp(paper);
            case 2: return new AShort(paper);
            case 3: return new AGrade(paper);
            case 4: return new ALent(paper);
            default: return new APaper(paper);
        }
    }

    int day(int day) {
        if (!in(day, 0, 999)) {
            return BAD;
        }
        int was = theDay;
        theDay = day;
        return was;
    }

    int kind(int paper) {
        return isPaper(paper) ? KINDS.indexOf(taken(paper).getClass()) : BAD;
    }

    int as(int paper, int kind) {
        if (!isPaper(paper) || !in(kind, 0, 5)) {
            return BAD;
        }
        return KINDS.get(kind).isInstance(taken(paper)) ? fine(papers.get(paper)[0]) : found(KIND);
    }

    int ask(int paper, int what) {
        if (!isPaper(paper) || !in(what, 0, 1)) {
            return BAD;
        }
        theTrace.clear();
        return what == 0 ? taken(paper).size() : taken(paper).mark();
    }

    int trace(int i) {
        return in(i, 0, Math.min(theTrace.size(), 16) - 1) ? theTrace.get(i) : NONE;
    }

    int count(int what) {
        switch (what) {
            case 0: return (int) Arrays.stream(sheets).filter(s -> s != null).count();
            case 1: return papers.size();
            case 2: return (int) takenBack.stream().filter(d -> d != null && d <= theDay).count();
            case 3: return keys.stream().mapToInt(List::size).sum() - 4;
            case 4: return seenOnes.size();
            case 5: return tape.length();
            default: return BAD;
        }
    }

    int status() {
        return theStatus;
    }
}
