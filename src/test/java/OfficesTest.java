/** Promises 6 to 15. */
public final class OfficesTest {
    public static void main(String[] args) {
        keys();
        close();
        paper();
        lastDayIsNotAheadOfTheFirst();
        told();
        sealFollowsTheKeyOfTheFirstDay();
        show();
        check();
        checkRefused();
        lies();
        chains();
        Due.end();
    }

    private static void keys() {
        PaperPocket x = new PaperPocket();
        Due.due(6, "key(1, 10, 65520)", x.key(1, 10, 65520), 1);
        Due.due(6, "key(1, 10, 5)", x.key(1, 10, 5), 2);
        Due.due(6, "key(1, 4, 1)", x.key(1, 4, 1), 3);
        Due.due(6, "key(1, 999, 7)", x.key(1, 999, 7), 4);
        Due.due(6, "key(1, 0, 8)", x.key(1, 0, 8), 5);
        Due.due(6, "key(1, 10, 9)", x.key(1, 10, 9), 6);
        Due.due(6, "key(1, 1, 1)", x.key(1, 1, 1), Due.FULL);
        Due.due(6, "key(1, 1, 0)", x.key(1, 1, 0), Due.BAD);
        Due.due(6, "key(2, 0, 3)", x.key(2, 0, 3), 1);
        Due.due(38, "count(3)", x.count(3), 7);
        int[][] due = {{0, 8}, {1, 8}, {3, 8}, {4, 1}, {9, 1}, {10, 9}, {11, 9}, {998, 9}, {999, 7}};
        for (int[] one : due) {
            Due.due(7, "keyOn(1, " + one[0] + ")", x.keyOn(1, one[0]), one[1]);
        }
        Due.due(7, "keyOn(2, 500)", x.keyOn(2, 500), 3);
        Due.due(7, "keyOn(0, 500)", x.keyOn(0, 500), 100);
        Due.due(7, "keyOn(3, 500)", x.keyOn(3, 500), 103);
        int[][] wrong = {{-1, 0, 1}, {4, 0, 1}, {0, -1, 1}, {0, 1000, 1}, {0, 0, 0}, {0, 0, 65521}, {0, 0, -5}};
        for (int[] w : wrong) {
            Due.due(6, "key of wrong numbers", x.key(w[0], w[1], w[2]), Due.BAD);
        }
        Due.due(7, "keyOn(-1, 0)", x.keyOn(-1, 0), Due.BAD);
        Due.due(7, "keyOn(4, 0)", x.keyOn(4, 0), Due.BAD);
        Due.due(7, "keyOn(0, -1)", x.keyOn(0, -1), Due.BAD);
        Due.due(7, "keyOn(0, 1000)", x.keyOn(0, 1000), Due.BAD);
        Due.due(38, "count(3)", x.count(3), 7);
    }

    private static void close() {
        PaperPocket x = new PaperPocket();
        Due.due(8, "close(3, 0, 999)", x.close(3, 0, 999), 1);
        Due.due(8, "again", x.close(3, 0, 5), Due.STATE);
        Due.due(8, "the other", x.close(3, 1, 0), 1);
        Due.due(8, "again", x.close(3, 1, 0), Due.STATE);
        Due.due(8, "BAD comes first", x.close(3, 1, 1000), Due.BAD);
        Due.due(8, "another office", x.close(0, 1, 0), 1);
        int[][] wrong = {{-1, 0, 0}, {4, 0, 0}, {1, -1, 0}, {1, 2, 0}, {1, 0, -1}, {1, 0, 1000}};
        for (int[] w : wrong) {
            Due.due(8, "close of wrong numbers", x.close(w[0], w[1], w[2]), Due.BAD);
        }
        Due.due(8, "what was refused is not told", x.close(1, 0, 998), 1);
        Due.due(8, "again", x.close(1, 0, 998), Due.STATE);
    }

    private static void paper() {
        PaperPocket x = new PaperPocket();
        Due.due(9, "missing", x.paper(0, 0), Due.NULL);
        Due.due(9, "paper(8, 0)", x.paper(8, 0), Due.BAD);
        Due.due(9, "paper(-1, 0)", x.paper(-1, 0), Due.BAD);
        Due.due(39, "status()", x.status(), 1);
        int[] limits = {3, 5, 4, 999, 999, 999, 999, 999, 999};
        Due.fill(x, 0, 0, 3, 5, 4, 999, 999, 999, 999, 999, 999, 0);
        Due.due(9, "at the limits", x.paper(0, 1), 0);
        Due.due(39, "status()", x.status(), 0);
        Due.due(9, "paper(0, 3)", x.paper(0, 3), Due.PLACE);
        Due.due(9, "paper(0, -1)", x.paper(0, -1), Due.PLACE);
        Due.due(9, "paper(0, MAX)", x.paper(0, Integer.MAX_VALUE), Due.PLACE);
        Due.due(39, "status()", x.status(), 2);
        for (int i = 0; i < 9; i++) {
            x.set(0, 1 + i, limits[i] + 1);
            Due.due(9, "item " + i + " too high", x.paper(0, 1), Due.BAD);
            x.set(0, 1 + i, -1);
            Due.due(9, "item " + i + " too low", x.paper(0, 1), Due.BAD);
            x.set(0, 1 + i, limits[i]);
        }
        x.set(0, 9, 1000);
        Due.due(9, "PLACE ahead of an item", x.paper(0, 9), Due.PLACE);
        x.paper(0, 1);
        Due.due(39, "status() stays behind an item's BAD", x.status(), 2);
        x.set(0, 9, 999);
        Due.due(38, "count(1)", x.count(1), 1);
        for (int p = 1; p < 12; p++) {
            Due.due(9, "paper", x.paper(0, 1), p);
        }
        Due.due(9, "the 13th", x.paper(0, 1), Due.FULL);
        Due.due(9, "FULL ahead of PLACE", x.paper(0, 9), Due.FULL);
        Due.due(9, "FULL ahead of NULL", x.paper(1, 0), Due.FULL);
        Due.due(9, "BAD ahead of FULL", x.paper(8, 0), Due.BAD);
        Due.due(38, "count(1)", x.count(1), 12);
    }

    private static void lastDayIsNotAheadOfTheFirst() {
        PaperPocket x = new PaperPocket();
        int[][] wrong = {{1, 0}, {999, 0}, {999, 998}, {30, 29}};
        for (int[] days : wrong) {
            Due.due(9, "a last day ahead of the first", Due.tell(x, 0, 0, 0, days[0], days[1], 0, 0, 0, 0), Due.BAD);
        }
        Due.due(38, "none was taken", x.count(1), 0);
        int[][] right = {{0, 0}, {999, 999}, {0, 999}, {998, 999}, {29, 30}};
        for (int p = 0; p < right.length; p++) {
            int[] days = right[p];
            Due.due(9, "days in their order", Due.tell(x, 0, 0, 0, days[0], days[1], 0, 0, 0, 0), p);
            Due.due(36, "days it has", x.ask(p, 0), days[1] - days[0] + 1);
            Due.due(24, "it holds on its first day", x.holds(p, 0, days[0]), 0);
            Due.due(24, "it holds on its last day", x.holds(p, 0, days[1]), 0);
        }
        x.paper(6, 0);
        Due.due(39, "status()", x.status(), 1);
        x.sheet(7, 0, 9);
        x.set(7, 3, 1);
        x.paper(7, 1);
        Due.due(39, "status()", x.status(), 2);
        Due.due(9, "in a sheet of bytes", x.paper(7, 0), Due.BAD);
        Due.due(39, "status() stays behind it", x.status(), 2);
        for (int p = right.length; p < 12; p++) {
            Due.tell(x, 0, 0, 0, 5, 5, 0, 0, 0, 0);
        }
        Due.due(9, "FULL ahead of an item", Due.tell(x, 0, 0, 0, 6, 5, 0, 0, 0, 0), Due.FULL);
    }

    private static void told() {
        PaperPocket x = new PaperPocket();
        Due.tell(x, 0, 0, 0, 0, 0, 1, 1, 1, 1);
        int[][] told = {{2, 4, 1, 30, 60, 5, 600, 999, 0}, {3, 5, 2, 0, 999, 0, 0, 0, 999}};
        for (int p = 1; p <= 2; p++) {
            int[] t = told[p - 1];
            Due.due(9, "paper", Due.tell(x, t), p);
            for (int f = 0; f < 4; f++) {
                Due.due(10, "field", x.told(p, f), t[5 + f]);
                Due.due(10, "chain's end", x.told(p, 12 + f), Due.steps(101 * p + 17 * f + 1, t[5 + f] + 1));
            }
            int root = Due.root(p, t[5], t[6], t[7], t[8]);
            Due.due(10, "left", x.told(p, 4), Due.join(Due.leaf(p, 0, t[5]), Due.leaf(p, 1, t[6])));
            Due.due(10, "right", x.told(p, 5), Due.join(Due.leaf(p, 2, t[7]), Due.leaf(p, 3, t[8])));
            Due.due(10, "root", x.told(p, 6), root);
            Due.due(10, "seal", x.told(p, 7), Due.seal(root, 100 + t[0]));
            Due.due(10, "office", x.told(p, 8), t[0]);
            Due.due(10, "bearer", x.told(p, 9), t[1]);
            Due.due(10, "first", x.told(p, 10), t[3]);
            Due.due(10, "last", x.told(p, 11), t[4]);
        }
        Due.due(10, "told(3, 0)", x.told(3, 0), Due.BAD);
        Due.due(10, "told(-1, 0)", x.told(-1, 0), Due.BAD);
        Due.due(10, "told(12, 0)", x.told(12, 0), Due.BAD);
        Due.due(10, "told(0, -1)", x.told(0, -1), Due.BAD);
        Due.due(10, "told(0, 16)", x.told(0, 16), Due.BAD);
    }

    private static void sealFollowsTheKeyOfTheFirstDay() {
        PaperPocket x = new PaperPocket();
        x.key(1, 20, 555);
        Due.tell(x, 1, 0, 0, 19, 30, 1, 2, 3, 4);
        Due.tell(x, 1, 0, 0, 20, 30, 1, 2, 3, 4);
        Due.due(10, "seal by the first key", x.told(0, 7), Due.seal(Due.root(0, 1, 2, 3, 4), 101));
        Due.due(10, "seal by the later key", x.told(1, 7), Due.seal(Due.root(1, 1, 2, 3, 4), 555));
        x.key(1, 20, 777);
        Due.due(10, "seal by the key of that day, told last", x.told(1, 7), Due.seal(Due.root(1, 1, 2, 3, 4), 777));
        Due.fill(x, 0, x.told(1, 4), x.told(1, 5));
        Due.due(12, "check goes by it, too", x.check(1, 0, 0, 0, 2), 1);
    }

    private static void show() {
        PaperPocket x = new PaperPocket();
        Due.tell(x, 0, 0, 0, 0, 0, 9, 9, 9, 9);
        Due.tell(x, 2, 4, 1, 30, 60, 5, 600, 999, 0);
        int[] f = {5, 600, 999, 0};
        for (int set = 0; set < 16; set++) {
            int n = 0;
            for (int half = 0; half < 2; half++) {
                int a = 2 * half;
                boolean some = (set >> a & 3) != 0;
                if (!some) {
                    Due.due(11, "half of set " + set, x.show(1, set, n++), x.told(1, 4 + half));
                }
                for (int i = a; some && i < a + 2; i++) {
                    int want = (set >> i & 1) == 1 ? f[i] : Due.leaf(1, i, f[i]);
                    Due.due(11, "field of set " + set, x.show(1, set, n++), want);
                }
            }
            Due.due(11, "how many", x.show(1, set, -1), n);
            Due.due(11, "no more", x.show(1, set, n), Due.NONE);
            Due.due(11, "no more", x.show(1, set, Integer.MAX_VALUE), Due.NONE);
        }
        Due.due(11, "show(2, 0, 0)", x.show(2, 0, 0), Due.BAD);
        Due.due(11, "show(-1, 0, 0)", x.show(-1, 0, 0), Due.BAD);
        Due.due(11, "show(0, -1, 0)", x.show(0, -1, 0), Due.BAD);
        Due.due(11, "show(0, 16, 0)", x.show(0, 16, 0), Due.BAD);
        Due.due(11, "show(0, 0, -2)", x.show(0, 0, -2), Due.BAD);
    }

    private static void check() {
        PaperPocket x = new PaperPocket();
        Due.tell(x, 0, 0, 0, 0, 0, 9, 9, 9, 9);
        Due.tell(x, 2, 4, 1, 30, 60, 5, 600, 998, 7);
        x.sheet(0, 2, 10);
        for (int set = 0; set < 16; set++) {
            int n = x.show(1, set, -1);
            for (int i = 0; i < n; i++) {
                x.set(0, 3 + i, x.show(1, set, i));
            }
            Due.due(12, "check of set " + set, x.check(1, set, 0, 3, n), 1);
            Due.due(12, "for another paper", x.check(0, set, 0, 3, n), 0);
            for (int i = 0; i < n; i++) {
                x.set(0, 3 + i, x.show(1, set, i) + 1);
                Due.due(12, "one number is another", x.check(1, set, 0, 3, n), 0);
                x.set(0, 3 + i, x.show(1, set, i));
            }
            Due.due(12, "one too few", x.check(1, set, 0, 3, n - 1), Due.BAD);
            Due.due(12, "one too many", x.check(1, set, 0, 3, n + 1), Due.BAD);
        }
        // A half whose first sum is M less the true one squares to the same, so a lie of sums is taken.
        Due.fill(x, 1, Due.M - x.told(1, 4), x.told(1, 5));
        Due.due(12, "another left with the same root", x.check(1, 0, 1, 0, 2), 1);
    }

    private static void checkRefused() {
        PaperPocket x = new PaperPocket();
        Due.due(12, "no paper", x.check(0, 0, 0, 0, 2), Due.BAD);
        Due.tell(x, 0, 0, 0, 0, 0, 9, 9, 9, 9);
        Due.due(12, "check(-1, ..)", x.check(-1, 0, 0, 0, 2), Due.BAD);
        Due.due(12, "set -1", x.check(0, -1, 0, 0, 2), Due.BAD);
        Due.due(12, "set 16", x.check(0, 16, 0, 0, 2), Due.BAD);
        Due.due(12, "sheet 8", x.check(0, 0, 8, 0, 2), Due.BAD);
        Due.due(12, "sheet -1", x.check(0, 0, -1, 0, 2), Due.BAD);
        Due.due(12, "n, ahead of NULL", x.check(0, 0, 0, 0, 3), Due.BAD);
        Due.due(12, "missing", x.check(0, 0, 0, -1, 2), Due.NULL);
        Due.due(39, "status()", x.status(), 1);
        Due.fill(x, 0, 65521, -1, 65520, 65520);
        Due.due(12, "PLACE ahead of an item", x.check(0, 1, 0, 2, 3), Due.PLACE);
        Due.due(12, "PLACE below 0", x.check(0, 0, 0, -1, 2), Due.PLACE);
        Due.due(12, "PLACE far out", x.check(0, 0, 0, Integer.MAX_VALUE, 2), Due.PLACE);
        Due.due(39, "status()", x.status(), 2);
        Due.due(12, "an item below 0", x.check(0, 0, 0, 1, 2), Due.BAD);
        Due.due(39, "status() stays", x.status(), 2);
        Due.due(12, "the greatest sums", x.check(0, 0, 0, 2, 2), 0);
        x.sheet(1, 2, 4);
        for (int set = 0; set < 16; set++) {
            Due.due(12, "the least numbers", x.check(0, set, 1, 0, x.show(0, set, -1)), 0);
        }
        Due.due(39, "status()", x.status(), 0);
        // 3 times 43679, and 5, is twice M: the root of these halves is 0, a root like any other.
        Due.fill(x, 0, 0, 43679);
        Due.due(12, "a root of 0", x.check(0, 0, 0, 0, 2), 0);
        Due.fill(x, 0, 65520, 65521);
        Due.due(12, "an item above 65520", x.check(0, 0, 0, 0, 2), Due.BAD);
        Due.fill(x, 0, 999, 65520, 65520);
        Due.due(12, "a value of 999, the greatest leaf and half", x.check(0, 1, 0, 0, 3), 0);
        Due.fill(x, 0, 1000, 0, 0);
        Due.due(12, "a value of 1000", x.check(0, 1, 0, 0, 3), Due.BAD);
        Due.due(12, "1000 where a leaf is due", x.check(0, 2, 0, 0, 3), 0);
        Due.fill(x, 0, 0, 65521, 0);
        Due.due(12, "a leaf of 65521", x.check(0, 1, 0, 0, 3), Due.BAD);
        Due.fill(x, 0, 0, 0, 0, 1000);
        Due.due(12, "a value of 1000, last", x.check(0, 8, 0, 1, 3), Due.BAD);
    }

    private static void lies() {
        PaperPocket x = new PaperPocket();
        java.util.Random random = new java.util.Random(13);
        for (int p = 0; p < 12; p++) {
            int[] f = p == 0 ? new int[] {0, 999, 999, 0} : random.ints(4, 0, 1000).toArray();
            Due.tell(x, p % 4, 0, 0, 5, 9, f[0], f[1], f[2], f[3]);
            int root = Due.root(p, f);
            for (int i = 0; i < 4; i++) {
                int[] g = f.clone();
                int many = 0;
                for (g[i] = 0; g[i] < 1000; g[i]++) {
                    many += Due.root(p, g) == root ? 1 : 0;
                }
                Due.due(13, "lies(" + p + ", " + i + ")", x.lies(p, i), many);
            }
        }
        liesOfMoreThanOne();
        Due.due(13, "lies(-1, 0)", x.lies(-1, 0), Due.BAD);
        Due.due(13, "lies(12, 0)", x.lies(12, 0), Due.BAD);
        Due.due(13, "lies(0, -1)", x.lies(0, -1), Due.BAD);
        Due.due(13, "lies(0, 4)", x.lies(0, 4), Due.BAD);
    }

    /** Looks for a field of paper 0 for which another value gives the same root, so that lies are two. */
    private static void liesOfMoreThanOne() {
        for (int other = 0; other < 200; other++) {
            java.util.Map<Integer, Integer> lefts = new java.util.HashMap<>();
            for (int v = 0; v < 1000; v++) {
                int left = Due.join(Due.leaf(0, 0, v), Due.leaf(0, 1, other));
                int like = Math.min(left, Due.M - left);
                if (lefts.put(like, v) != null) {
                    PaperPocket x = new PaperPocket();
                    Due.tell(x, 1, 1, 1, 1, 1, v, other, 3, 4);
                    Due.due(13, "lies of two values", x.lies(0, 0), 2);
                    return;
                }
            }
        }
        Due.due(13, "a paper with two such values is found", 0, 1);
    }

    private static void chains() {
        PaperPocket x = new PaperPocket();
        Due.tell(x, 0, 0, 0, 0, 0, 9, 9, 9, 9);
        int[] f = {0, 1, 500, 999};
        Due.tell(x, 0, 0, 0, 0, 0, f[0], f[1], f[2], f[3]);
        for (int i = 0; i < 4; i++) {
            for (int b : new int[] {0, 1, 2, 499, 500, 501, 998, 999}) {
                int want = b > f[i] ? Due.STATE : Due.steps(101 + 17 * i + 1, f[i] - b);
                Due.due(14, "over(1, " + i + ", " + b + ")", x.over(1, i, b), want);
                if (b <= f[i]) {
                    Due.due(15, "isOver", x.isOver(1, i, b, want), 1);
                    Due.due(15, "isOver of another field", x.isOver(1, 3 - i, b, want), 0);
                    Due.due(15, "isOver of another bound", x.isOver(1, i, b == 999 ? 0 : b + 1, want), 0);
                }
            }
        }
        Due.due(15, "the number may be M less another", x.isOver(1, 0, 0, Due.M - 102), 1);
        Due.due(15, "a bound above the value", x.isOver(1, 0, 999, 65520), Due.steps(65520, 1000) == x.told(1, 12) ? 1 : 0);
        int[][] wrong = {{2, 0, 0, 0}, {-1, 0, 0, 0}, {1, 4, 0, 0}, {1, -1, 0, 0}, {1, 0, -1, 0}, {1, 0, 1000, 0}};
        for (int[] w : wrong) {
            Due.due(14, "over of wrong numbers", x.over(w[0], w[1], w[2]), Due.BAD);
            Due.due(15, "isOver of wrong numbers", x.isOver(w[0], w[1], w[2], w[3]), Due.BAD);
        }
        Due.due(15, "isOver of 65521", x.isOver(1, 0, 0, 65521), Due.BAD);
        Due.due(15, "isOver of -1", x.isOver(1, 0, 0, -1), Due.BAD);
        Due.due(15, "isOver of 65520", x.isOver(1, 0, 0, 65520), 0);
        Due.due(15, "isOver of 0", x.isOver(1, 0, 0, 0), 0);
    }
}
