import java.lang.reflect.Method;
import java.lang.reflect.Modifier;
import java.util.Arrays;
import java.util.Comparator;

/** What the tests share: comparing answers with those that are due, and making papers and texts. */
final class Due {
    static final int NONE = -1000000, BAD = -1000001, STATE = -1000002, FULL = -1000003;
    static final int NULL = -1000011, PLACE = -1000012, KIND = -1000013, SIZE = -1000014, STORE = -1000015;
    static final int M = 65521;

    private static int asked = 0;
    private static int wrong = 0;
    private static String running = "";

    private Due() { }

    /** Runs each test of a class, that is each static method without parameters, so that none can be forgotten. */
    static void runAll(Class<?> tests) {
        Method[] methods = tests.getDeclaredMethods();
        Arrays.sort(methods, Comparator.comparing(Method::getName));
        for (Method test : methods) {
            boolean own = Modifier.isStatic(test.getModifiers()) && !test.isSynthetic();
            if (own && test.getParameterCount() == 0 && test.getReturnType() == void.class) {
                run(test);
            }
        }
        end();
    }

    private static void run(Method test) {
        running = test.getName() + ", ";
        int askedBefore = asked;
        try {
            test.invoke(null);
        } catch (ReflectiveOperationException e) {
            wrong++;
            System.out.println(running + "ended by " + e.getCause());
        }
        if (asked == askedBefore) {
            wrong++;
            System.out.println(running + "asked nothing");
        }
    }

    static void due(int promise, String call, long got, long want) {
        asked++;
        if (got != want) {
            wrong++;
            System.out.println(running + "promise " + promise + ": " + call + " answered " + got + ", due is " + want);
        }
    }

    static void end() {
        System.out.println(asked + " answers, " + wrong + " not as due");
        if (wrong != 0) {
            System.exit(1);
        }
    }

    /** Puts items into a new sheet of ints. */
    static void fill(PaperPocket x, int sheet, int... items) {
        x.sheet(sheet, 2, items.length);
        for (int i = 0; i < items.length; i++) {
            x.set(sheet, i, items[i]);
        }
    }

    /** Tells a paper by way of sheet 7: office, bearer, sort, first, last, four fields. */
    static int tell(PaperPocket x, int... items) {
        fill(x, 7, items);
        return x.paper(7, 0);
    }

    /** What an item is (0 to 256 can be looked at), by way of a copy in sheet 6, where it is a friend's part. */
    static int item(PaperPocket x, int lane, int sheet, int i) {
        x.sheet(6, lane, 2);
        x.set(6, 0, 1);
        x.copy(sheet, i, 6, 1, 1);
        return x.friends(6, 0, 1, 0);
    }

    /** Feeds a text and has it read. */
    static int read(PaperPocket x, String text) {
        feed(x, text);
        return x.doors();
    }

    /** Feeds eight bytes at a time, and behind them what is left. */
    static void feed(PaperPocket x, String text) {
        for (int from = 0; from < text.length(); from += 8) {
            int n = Math.min(8, text.length() - from);
            long w = 0;
            for (int i = 0; i < n; i++) {
                w = w << 8 | text.charAt(from + i) & 255;
            }
            x.feed(w, n);
        }
    }

    static int join(int a, int b) {
        return (int) (((long) a * a + 3L * b + 5) % M);
    }

    static int leaf(int paper, int field, int value) {
        return (31 * value + 7 * paper + field) % M;
    }

    static int root(int paper, int... f) {
        return join(join(leaf(paper, 0, f[0]), leaf(paper, 1, f[1])), join(leaf(paper, 2, f[2]), leaf(paper, 3, f[3])));
    }

    static int seal(int root, int key) {
        return (int) (((long) root * key + 1) % M);
    }

    static int steps(int from, int many) {
        long x = from;
        for (int i = 0; i < many; i++) {
            x = (x * x + 3) % M;
        }
        return (int) x;
    }
}
