import java.lang.reflect.Method;
import java.util.Arrays;
import java.util.Map;
import java.util.Random;
import java.util.TreeMap;

/** Runs of 512 random calls at most: PaperPocket answers each as Model does, which was written from the document alone. */
public final class ModelTest {
    private static final int RUNS = 1500, CALLS = 512, SHOWN_FAULTS = 5;

    /** Each call with what its numbers may be; behind ~ the highest one that is likely. */
    private static final String[] CALLS_WITH_RANGES = {
        "sheet 0:7~3 0:2 0:60~20", "set 0:7~3 0:59~20 0:999", "copy 0:7~3 0:59~20 0:7~3 0:59~20 0:60~12", "drop 0:7",
        "key 0:3 0:999~30 1:65520", "keyOn 0:3 0:999~40", "close 0:3 0:1 0:999~40", "paper 0:7~3 0:51~20", "told 0:11 0:15",
        "show 0:11 0:15 -1:4", "check 0:11 0:15 0:7~3 0:56~16 2:4", "lies 0:11 0:3", "over 0:11 0:3 0:999~40",
        "isOver 0:11 0:3 0:999~40 0:65520", "secret 0:5 0:22", "answer 0:5 0:22 0:22 0:1", "taken 0:5 0:46 0:22 0:22",
        "odds 0:5 0:46 0:22", "part 0:256 1:4 1:6", "friends 0:7~3 0:48~16 1:6 0:4", "book 0:3 0:999~50", "revoke 0:11 0:999~40",
        "holds 0:11 0:3 0:999~40", "doors", "fault", "door 0:3 0:2", "least 0:5~1 0:3 0:999~30 0:1", "seen 0:3 0:11 0:15",
        "together 1:1073741823~15", "queue 0:7~3 0:46~16 1:7 -1:6", "day 0:999~40", "kind 0:11", "as 0:11 0:5", "ask 0:11 0:1",
        "trace 0:15~5", "count 0:5", "status",
    };
    private static final int[] WILD = {
        Integer.MIN_VALUE, Integer.MIN_VALUE + 1, -65536, -1001, -2, -1, 0, 1, 60, 61, 255, 256, 257, 999, 1000, 65520, 65521, 65536,
        1 << 30, Integer.MAX_VALUE - 1, Integer.MAX_VALUE,
    };
    /** The highest a paper's items may be. */
    private static final int[] MOST_ITEMS = {3, 5, 4, 999, 999, 999, 999, 999, 999};
    private static final String[] SCRAPS = {
        "door", "right", "from", "field", "over", ";", " ", "\n", "0", "3", "4", "999", "1000", "007", "a", "z", "\t", "A", "`", "{", "/", ":", "\u00e9", "doo", "",
    };

    private static final Map<String, Method> OURS = new TreeMap<>();
    private static final Map<String, Method> THEIRS = new TreeMap<>();
    /** By a call's name how often it was answered, and how often refused. */
    private static final Map<String, int[]> ANSWERED = new TreeMap<>();
    private static final Map<Integer, Integer> REFUSALS = new TreeMap<>();

    private final Random random;
    private final PaperPocket pocket = new PaperPocket();
    private final Model model = new Model();
    private final StringBuilder story = new StringBuilder();
    private final int wildness;
    /** In a narrow run days fall together, which is where HOLDS, KEYS and GONE ones turn. */
    private final boolean narrow;
    private int calls;
    private boolean differed;

    private ModelTest(int seed) {
        random = new Random(seed);
        wildness = 3 + random.nextInt(60);
        narrow = random.nextBoolean();
    }

    public static void main(String[] args) throws ReflectiveOperationException {
        for (Method method : PaperPocket.class.getDeclaredMethods()) {
            if (java.lang.reflect.Modifier.isPublic(method.getModifiers())) {
                OURS.put(method.getName(), method);
                THEIRS.put(method.getName(), Model.class.getDeclaredMethod(method.getName(), method.getParameterTypes()));
            }
        }
        int differing = 0;
        for (int seed = 0; seed < RUNS && differing < SHOWN_FAULTS; seed++) {
            differing += new ModelTest(seed).runDiffers() ? 1 : 0;
        }
        Due.due(1, "runs that differ from the model", differing, 0);
        enoughWasAsked();
        Due.end();
    }

    /** A test whose calls were all refused would tell nothing. */
    private static void enoughWasAsked() {
        for (String name : OURS.keySet()) {
            int[] times = ANSWERED.getOrDefault(name, new int[2]);
            Due.due(1, name + " answered often enough, " + times[0] + " times", times[0] >= 500 ? 1 : 0, 1);
        }
        for (int refusal : new int[] {Due.NONE, Due.BAD, Due.STATE, Due.FULL, Due.NULL, Due.PLACE, Due.KIND, Due.SIZE, Due.STORE}) {
            int times = REFUSALS.getOrDefault(refusal, 0);
            Due.due(1, refusal + " answered often enough, " + times + " times", times >= 100 ? 1 : 0, 1);
        }
    }

    private boolean runDiffers() throws ReflectiveOperationException {
        int papers = random.nextInt(14);
        for (int p = 0; p < papers; p++) {
            tellPaper();
        }
        fillUp();
        while (calls < CALLS && !differed) {
            switch (random.nextInt(68)) {
                case 0: tellPaper(); break;
                case 1: partAndGiveBack(); break;
                case 2: lineUp(); break;
                case 3: showAndCheck(); break;
                case 4: case 5: readText(); break;
                case 6: proveOver(); break;
                case 7: proveWho(); break;
                case 8: askAll(); break;
                case 9: both("feed", random.nextLong(), ranged("1:8")); break;
                case 10: copyAndLook(); break;
                case 11: seeTogether(); break;
                case 12: holdAll(); break;
                default: anyCall(); break;
            }
        }
        return differed;
    }

    // ---- one call of both

    private int both(String name, Object... numbers) throws ReflectiveOperationException {
        if (calls >= CALLS || differed) {
            return 0;
        }
        calls++;
        int got = (int) OURS.get(name).invoke(pocket, numbers);
        int due = (int) THEIRS.get(name).invoke(model, numbers);
        boolean refused = due <= Due.NONE && due >= Due.STORE && !name.equals("set");
        ANSWERED.computeIfAbsent(name, n -> new int[2])[refused ? 1 : 0]++;
        REFUSALS.merge(due, refused ? 1 : 0, Integer::sum);
        String call = name + Arrays.toString(numbers);
        story.append(call).append(" -> ").append(got).append('\n');
        if (got != due) {
            differed = true;
            System.out.println(story);
            Due.due(1, "call " + calls + ", " + call, got, due);
        }
        return due;
    }

    private void anyCall() throws ReflectiveOperationException {
        String[] words = CALLS_WITH_RANGES[random.nextInt(CALLS_WITH_RANGES.length)].split(" ");
        Object[] numbers = new Object[words.length - 1];
        for (int i = 0; i < numbers.length; i++) {
            numbers[i] = ranged(words[i + 1]);
        }
        // The tape would be empty nearly always, were it read as often as anything else is asked.
        if (!words[0].equals("doors") || random.nextInt(6) == 0) {
            both(words[0], numbers);
        }
    }

    private int ranged(String range) {
        String[] parts = range.split("[:~]");
        int low = Integer.parseInt(parts[0]);
        int high = Integer.parseInt(parts[1]);
        int likely = Integer.parseInt(parts[parts.length - 1]);
        if (random.nextInt(wildness) == 0) {
            return around(low, high);
        }
        if (narrow && high == 999) {
            return low + random.nextInt(7);
        }
        int top = random.nextInt(5) == 0 ? high : likely;
        return low + random.nextInt(top - low + 1);
    }

    /** A number at an edge of a range, or far from it. */
    private int around(int low, int high) {
        int[] edges = {low - 1, low, high, high + 1, WILD[random.nextInt(WILD.length)]};
        return edges[random.nextInt(edges.length)];
    }

    // ---- what takes several calls

    /** Some runs begin with what is kept being full, or with all of it but the last one. */
    private void fillUp() throws ReflectiveOperationException {
        int what = random.nextInt(12);
        int office = random.nextInt(4);
        for (int i = 0; what == 0 && i < 7; i++) {
            both("key", office, random.nextInt(7), 1 + random.nextInt(65520));
            both("keyOn", office, random.nextInt(7));
        }
        for (int i = 0; what == 1 && i < 31; i++) {
            both("seen", random.nextInt(4), random.nextInt(2), random.nextInt(16));
        }
        for (int i = 0; what == 2 && i < 37; i++) {
            both("feed", 0x2020202020202020L, 8);
        }
        for (int i = 0; what == 2 && i < 6; i++) {
            both("feed", (long) ';', 1 + random.nextInt(2));
        }
    }

    private void holdAll() throws ReflectiveOperationException {
        int door = random.nextInt(4);
        int day = ranged("0:999~30");
        both("book", door, ranged("0:999~50"));
        for (int paper = 0; paper < 12; paper++) {
            both("holds", paper, door, day);
        }
    }

    private void fill(int sheet, int lane, int at, int... items) throws ReflectiveOperationException {
        both("sheet", sheet, lane, at + items.length);
        for (int i = 0; i < items.length; i++) {
            both("set", sheet, at + i, items[i]);
        }
    }

    /** Values are few and days near one another, so that papers are alike, hold, and fit what doors ask. */
    private void tellPaper() throws ReflectiveOperationException {
        int most = random.nextInt(6) == 0 ? 999 : 1 + random.nextInt(40);
        int first = random.nextInt(narrow ? 5 : 25);
        int last = first + random.nextInt(narrow ? 6 : 40) - (random.nextInt(8) == 0 ? 3 : 0);
        int[] items = {random.nextInt(4), random.nextInt(random.nextInt(3) == 0 ? 6 : 2), random.nextInt(5), first, last,
            random.nextInt(most + 1), random.nextInt(most + 1), random.nextInt(4), random.nextInt(4)};
        if (random.nextInt(4) == 0) {
            int changed = random.nextInt(9);
            items[changed] = around(0, MOST_ITEMS[changed]);
        }
        int sheet = random.nextInt(8);
        int at = random.nextInt(3);
        fill(sheet, 1 + random.nextInt(2), at, items);
        both("paper", sheet, at);
    }

    /** What a sheet has is looked at item by item, as a friend's part in sheet 6. */
    private void copyAndLook() throws ReflectiveOperationException {
        int lane = random.nextInt(3);
        int[] items = new int[4 + random.nextInt(6)];
        for (int i = 0; i < items.length; i++) {
            items[i] = random.nextInt(127);
        }
        fill(4, lane, 0, items);
        int to = 4 + random.nextInt(2);
        if (to == 5) {
            both("sheet", 5, random.nextInt(9) == 0 ? 2 - lane : lane, ranged("0:60~12"));
        }
        int end = items.length;
        both("copy", 4, ranged("0:" + end + "~3"), to, ranged("0:" + end + "~3"), ranged("0:" + end + "~4"));
        both("sheet", 6, lane, 2);
        both("set", 6, 0, 1);
        for (int i = 0; i < end; i++) {
            both("copy", to, i, 6, 1, 1);
            both("friends", 6, 0, 1, 0);
        }
        both("sheet", ranged("0:7"), lane, -1 - random.nextInt(3));
    }

    private void seeTogether() throws ReflectiveOperationException {
        for (int i = 1 + random.nextInt(4); i > 0; i--) {
            both("seen", random.nextInt(4), random.nextInt(12), random.nextInt(16) & random.nextInt(16));
        }
        int many = both("count", 4);
        for (int i = 0; i < 4; i++) {
            both("together", 1 << random.nextInt(many + 1) | 1 << random.nextInt(many + 1));
        }
        both("together", random.nextInt(1 << many));
    }

    private void partAndGiveBack() throws ReflectiveOperationException {
        int s = random.nextInt(257);
        int k = 1 + random.nextInt(4);
        int n = 1 + random.nextInt(6);
        int[] items = new int[2 * n];
        int first = random.nextInt(6);
        for (int i = 0; i < n; i++) {
            items[2 * i] = 1 + (first + i * (random.nextInt(9) == 0 ? 2 : 1)) % 6;
            items[2 * i + 1] = both("part", s, k, items[2 * i]);
        }
        if (random.nextInt(3) == 0) {
            items[random.nextInt(2 * n)] = random.nextBoolean() ? random.nextInt(257) : around(0, 256);
        }
        fill(2, 1, 0, items);
        for (int needed = 0; needed <= 4; needed++) {
            both("friends", 2, 0, n, needed);
        }
    }

    private void lineUp() throws ReflectiveOperationException {
        int n = 1 + random.nextInt(7);
        int late = new int[] {1, 6, 30, 200, 1000}[random.nextInt(5)];
        int long_ = new int[] {1, 3, 20, 99}[random.nextInt(4)];
        int[] items = new int[2 * n];
        for (int i = 0; i < n; i++) {
            items[2 * i] = random.nextInt(late);
            items[2 * i + 1] = 1 + random.nextInt(long_);
        }
        if (random.nextInt(6) == 0) {
            int work = random.nextInt(n);
            boolean when = random.nextBoolean();
            items[2 * work + (when ? 0 : 1)] = when ? around(0, 999) : around(1, 99);
        }
        fill(3, 1, 0, items);
        for (int k = -1; k < n; k++) {
            both("queue", 3, 0, n, k);
        }
    }

    private void showAndCheck() throws ReflectiveOperationException {
        int paper = random.nextInt(12);
        int set = random.nextInt(16);
        int many = both("show", paper, set, -1);
        if (many < 0) {
            return;
        }
        int[] items = new int[many];
        for (int i = 0; i < many; i++) {
            items[i] = both("show", paper, set, i);
        }
        fill(1, 2, 1, items);
        both("check", paper, set, 1, 1, many);
        int changed = random.nextInt(many);
        int other = random.nextInt(3) == 0 ? around(0, random.nextBoolean() ? 999 : 65520) : items[changed] + random.nextInt(3) - 1;
        both("set", 1, 1 + changed, other);
        both("check", paper, set, 1, 1, many);
        both("check", (paper + 1) % 12, set, 1, 1, many);
    }

    private void proveOver() throws ReflectiveOperationException {
        int paper = random.nextInt(12);
        int field = random.nextInt(4);
        int bound = ranged("0:999~3");
        int number = both("over", paper, field, bound);
        both("isOver", paper, field, bound, number);
        both("isOver", paper, field, bound + 1, number);
        both("isOver", paper, field, bound, number ^ 1);
    }

    private void proveWho() throws ReflectiveOperationException {
        int bearer = random.nextInt(6);
        int r = random.nextInt(23);
        int c = random.nextInt(23);
        int t = both("answer", bearer, r, c, 0);
        int s = both("answer", bearer, r, c, 1);
        both("taken", bearer, t, c, s);
        both("taken", bearer, t, (c + 1) % 23, s);
        both("odds", bearer, t, s);
    }

    private void askAll() throws ReflectiveOperationException {
        int paper = random.nextInt(12);
        both("kind", paper);
        both("ask", paper, random.nextInt(2));
        for (int i = 0; i < 6; i++) {
            both("trace", i);
        }
        both("as", paper, random.nextInt(6));
    }

    private void readText() throws ReflectiveOperationException {
        StringBuilder text = new StringBuilder();
        for (int texts = random.nextInt(4); texts >= 0; texts--) {
            text.append(random.nextInt(3) == 0 ? rightText() : doorText());
        }
        if (random.nextInt(3) == 0) {
            int at = random.nextInt(text.length() + 1);
            int end = Math.min(text.length(), at + random.nextInt(4));
            text.replace(at, end, SCRAPS[random.nextInt(SCRAPS.length)]);
        }
        for (int from = 0; from < text.length(); from += 8) {
            int n = Math.min(8, text.length() - from);
            long w = random.nextLong();
            for (int i = 0; i < n; i++) {
                w = w << 8 | text.charAt(from + i) & 255;
            }
            both("feed", w, n);
        }
        both("doors");
        both("fault");
        int door = random.nextInt(4);
        for (int what = 0; what < 3; what++) {
            both("door", door, what);
        }
        for (int bearer = 0; bearer < 2; bearer++) {
            both("least", bearer, door, 15, 0);
            both("least", bearer, door, 15, 1);
        }
    }

    private String doorText() {
        StringBuilder text = new StringBuilder("door" + gap() + random.nextInt(random.nextInt(20) == 0 ? 6 : 4));
        int asks = random.nextInt(6) == 0 ? 7 + random.nextInt(3) : random.nextInt(4);
        for (int i = 0; i < asks; i++) {
            String word = new String[] {"from", "field", "over"}[random.nextInt(3)];
            text.append(gap()).append(word).append(gap()).append(random.nextInt(random.nextInt(20) == 0 ? 12 : 4));
            if (word.equals("over")) {
                text.append(' ').append(random.nextInt(random.nextInt(9) == 0 ? 1100 : random.nextBoolean() ? 9 : 40));
            }
        }
        return text.append(random.nextInt(30) == 0 ? "" : ";").toString();
    }

    private String rightText() {
        StringBuilder text = new StringBuilder("right" + gap() + random.nextInt(random.nextInt(20) == 0 ? 6 : 4));
        for (int i = random.nextInt(5); i > 0; i--) {
            text.append(' ').append(random.nextInt(random.nextInt(20) == 0 ? 5 : 4));
        }
        return text.append(gap()).append(';').toString();
    }

    private String gap() {
        return new String[] {" ", " ", " ", "", "\n", "  \n"}[random.nextInt(6)];
    }
}
