import java.util.Random;

/** Promises 16 to 21. */
public final class WhoTest {
    public static void main(String[] args) {
        secret();
        answers();
        odds();
        part();
        givenBack();
        possible();
        friendsRefused();
        Due.end();
    }

    private static int power(int base, int exponent, int modulus) {
        int result = 1;
        for (int i = 0; i < exponent; i++) {
            result = result * base % modulus;
        }
        return result;
    }

    private static void secret() {
        PaperPocket x = new PaperPocket();
        for (int bearer = 0; bearer < 6; bearer++) {
            for (int v = 1; v <= 22; v++) {
                Due.due(16, "secret(" + bearer + ", " + v + ")", x.secret(bearer, v), power(4, v, 47));
            }
        }
        x.secret(2, 9);
        Due.due(16, "it stays", x.secret(2, 0), power(4, 9, 47));
        Due.due(16, "secret(2, 23)", x.secret(2, 23), Due.BAD);
        Due.due(16, "secret(2, -1)", x.secret(2, -1), Due.BAD);
        Due.due(16, "secret(6, 1)", x.secret(6, 1), Due.BAD);
        Due.due(16, "secret(-1, 1)", x.secret(-1, 1), Due.BAD);
        Due.due(16, "it stays", x.secret(2, 0), power(4, 9, 47));
        Due.due(16, "the others stay", x.secret(3, 0), power(4, 22, 47));
    }

    private static void answers() {
        for (int r = 0; r < 23; r += 2) {
            PaperPocket x = new PaperPocket();
            x.secret(4, 22);
            for (int c = 0; c < 23; c += 2) {
                int t = x.answer(4, r, c, 0);
                int s = x.answer(4, r, c, 1);
                Due.due(17, "t", t, power(4, r, 47));
                Due.due(17, "s", s, (r + 22 * c) % 23);
                Due.due(18, "taken of what is made", x.taken(4, t, c, s), 1);
                Due.due(18, "taken of another s", x.taken(4, t, c, (s + 1) % 23), 0);
            }
        }
        PaperPocket x = new PaperPocket();
        Due.due(18, "taken(0, 0, 0, 0)", x.taken(0, 0, 0, 0), 0);
        Due.due(18, "taken(0, 46, 22, 22)", x.taken(0, 46, 22, 22), 0);
        int[][] wrong = {{-1, 0, 0, 0}, {6, 0, 0, 0}, {0, -1, 0, 0}, {0, 23, 0, 0}, {0, 0, -1, 0}, {0, 0, 23, 0}, {0, 0, 0, -1}, {0, 0, 0, 2}};
        for (int[] w : wrong) {
            Due.due(17, "answer of wrong numbers", x.answer(w[0], w[1], w[2], w[3]), Due.BAD);
        }
        int[][] wrongTaken = {{-1, 1, 0, 0}, {6, 1, 0, 0}, {0, -1, 0, 0}, {0, 47, 0, 0}, {0, 1, -1, 0}, {0, 1, 23, 0}, {0, 1, 0, -1}, {0, 1, 0, 23}};
        for (int[] w : wrongTaken) {
            Due.due(18, "taken of wrong numbers", x.taken(w[0], w[1], w[2], w[3]), Due.BAD);
        }
    }

    private static void odds() {
        PaperPocket x = new PaperPocket();
        for (int t = 0; t < 47; t++) {
            for (int s = 0; s < 23; s += 11) {
                int many = 0;
                for (int c = 0; c < 23; c++) {
                    many += power(4, s, 47) == t * power(power(4, 3, 47), c, 47) % 47 ? 1 : 0;
                }
                Due.due(19, "odds(1, " + t + ", " + s + ")", x.odds(1, t, s), many);
            }
        }
        int[][] wrong = {{-1, 1, 0}, {6, 1, 0}, {0, -1, 0}, {0, 47, 0}, {0, 1, -1}, {0, 1, 23}};
        for (int[] w : wrong) {
            Due.due(19, "odds of wrong numbers", x.odds(w[0], w[1], w[2]), Due.BAD);
        }
    }

    private static int sum(int s, int k, int friend) {
        long sum = s;
        long raised = 1;
        for (int j = 1; j < k; j++) {
            raised *= friend;
            sum += (s * (j + 3L) + 11 * j + 5) % 257 * raised;
        }
        return (int) (sum % 257);
    }

    private static void part() {
        PaperPocket x = new PaperPocket();
        for (int s : new int[] {0, 1, 42, 128, 255, 256}) {
            for (int k = 1; k <= 4; k++) {
                for (int f = 1; f <= 6; f++) {
                    Due.due(20, "part(" + s + ", " + k + ", " + f + ")", x.part(s, k, f), sum(s, k, f));
                }
            }
        }
        int[][] wrong = {{-1, 1, 1}, {257, 1, 1}, {0, 0, 1}, {0, 5, 1}, {0, 1, 0}, {0, 1, 7}};
        for (int[] w : wrong) {
            Due.due(20, "part of wrong numbers", x.part(w[0], w[1], w[2]), Due.BAD);
        }
    }

    /** n friends, n at least k, of any order, have the number back; unlike sums of one power are tried out whole. */
    private static void givenBack() {
        Random random = new Random(21);
        for (int round = 0; round < 60; round++) {
            PaperPocket x = new PaperPocket();
            int s = random.nextInt(257);
            int k = 1 + random.nextInt(4);
            int n = k + random.nextInt(7 - k);
            int[] items = new int[2 * n];
            int[] order = someFriends(random);
            for (int i = 0; i < n; i++) {
                items[2 * i] = order[i];
                items[2 * i + 1] = x.part(s, k, order[i]);
            }
            Due.fill(x, 0, items);
            Due.due(21, "given back", x.friends(0, 0, n, 0), s);
            Due.due(21, "possible", x.friends(0, 0, n, k), 1);
            Due.due(39, "status()", x.status(), 0);
        }
    }

    private static int[] someFriends(Random random) {
        int[] order = {1, 2, 3, 4, 5, 6};
        for (int i = 5; i > 0; i--) {
            int j = random.nextInt(i + 1);
            int kept = order[i];
            order[i] = order[j];
            order[j] = kept;
        }
        return order;
    }

    /** Tries out every sum of two numbers at most (k up to 2), and of three for a few. */
    private static void possible() {
        Random random = new Random(22);
        for (int round = 0; round < 40; round++) {
            int k = round < 36 ? 1 + round % 2 : 3;
            int n = 1 + random.nextInt(4);
            int[] order = someFriends(random);
            int[] items = new int[2 * n];
            int a = random.nextInt(257);
            int b = k == 1 && round % 4 == 0 ? 0 : random.nextInt(257);
            for (int i = 0; i < n; i++) {
                items[2 * i] = order[i];
                items[2 * i + 1] = (a + b * order[i]) % 257;
            }
            if (round % 3 == 0) {
                items[2 * n - 1] = random.nextInt(257);
            }
            PaperPocket x = new PaperPocket();
            Due.fill(x, 5, items);
            Due.due(21, "possible, k = " + k + ", n = " + n, x.friends(5, 0, n, k), tryOut(items, k));
        }
    }

    private static int tryOut(int[] items, int k) {
        int many = 0;
        for (int s = 0; s < 257; s++) {
            boolean some = false;
            for (int a = 0; a < (k > 1 ? 257 : 1) && !some; a++) {
                for (int b = 0; b < (k > 2 ? 257 : 1) && !some; b++) {
                    boolean all = true;
                    for (int i = 0; i < items.length && all; i += 2) {
                        int f = items[i];
                        all = (s + a * f + b * f * f) % 257 == items[i + 1];
                    }
                    some = all;
                }
            }
            many += some ? 1 : 0;
        }
        return many;
    }

    private static void friendsRefused() {
        PaperPocket x = new PaperPocket();
        int[][] wrong = {{-1, 0, 1, 0}, {8, 0, 1, 0}, {0, 0, 0, 0}, {0, 0, 7, 0}, {0, 0, 1, -1}, {0, 0, 1, 5}};
        for (int[] w : wrong) {
            Due.due(21, "friends of wrong numbers", x.friends(w[0], w[1], w[2], w[3]), Due.BAD);
        }
        Due.due(21, "missing", x.friends(0, -1, 1, 0), Due.NULL);
        Due.due(39, "status()", x.status(), 1);
        Due.fill(x, 0, 1, 0, 1, 0);
        Due.due(21, "PLACE", x.friends(0, 0, 3, 0), Due.PLACE);
        Due.due(21, "PLACE", x.friends(0, -1, 1, 0), Due.PLACE);
        Due.due(21, "PLACE", x.friends(0, 3, 1, 0), Due.PLACE);
        Due.due(21, "PLACE", x.friends(0, Integer.MAX_VALUE, 1, 0), Due.PLACE);
        Due.due(39, "status()", x.status(), 2);
        Due.due(21, "a friend twice", x.friends(0, 0, 2, 0), Due.BAD);
        Due.due(21, "a friend twice, POSSIBLE", x.friends(0, 0, 2, 1), Due.BAD);
        Due.due(39, "status() stays", x.status(), 2);
        int[][] pairs = {{0, 0}, {7, 0}, {-1, 0}, {1, -1}, {1, 257}, {33, 0}};
        for (int[] pair : pairs) {
            Due.fill(x, 0, pair);
            Due.due(21, "a wrong item", x.friends(0, 0, 1, 0), Due.BAD);
        }
        Due.fill(x, 0, 6, 256, 1, 0);
        Due.due(21, "the edges", x.friends(0, 0, 1, 0), 256);
        Due.due(21, "two of them", x.friends(0, 0, 2, 0), backOfTwo(6, 256, 1, 0));
        Due.due(39, "status()", x.status(), 0);
    }

    /** The one s for which some s and a f has both parts. */
    private static int backOfTwo(int f, int p, int g, int q) {
        for (int s = 0; s < 257; s++) {
            for (int a = 0; a < 257; a++) {
                if ((s + a * f) % 257 == p && (s + a * g) % 257 == q) {
                    return s;
                }
            }
        }
        return -1;
    }
}
