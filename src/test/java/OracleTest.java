import java.util.Random;

/** LEAST and QUEUE against going through all sets and all orders. */
public final class OracleTest {
    public static void main(String[] args) {
        Random random = new Random(2026);
        for (int round = 0; round < 300; round++) {
            leastOfRandomPapers(random);
        }
        for (int round = 0; round < 150; round++) {
            queueOfRandomWorks(random);
        }
        Due.end();
    }

    private static void leastOfRandomPapers(Random random) {
        PaperPocket x = new PaperPocket();
        int many = random.nextInt(13);
        int[][] papers = new int[many][];
        for (int p = 0; p < many; p++) {
            int first = random.nextInt(6);
            papers[p] = new int[] {random.nextInt(4), random.nextInt(2), random.nextInt(5), first, first + random.nextInt(20),
                random.nextInt(10), random.nextInt(10), random.nextInt(10), random.nextInt(10)};
            Due.tell(x, papers[p]);
            if (random.nextInt(4) == 0) {
                x.revoke(p, random.nextInt(12));
            }
        }
        x.close(random.nextInt(4), random.nextInt(2), random.nextInt(12));
        x.book(0, random.nextInt(12));
        int[][] asks = new int[random.nextInt(9)][];
        StringBuilder text = new StringBuilder("door 0");
        for (int i = 0; i < asks.length; i++) {
            asks[i] = new int[] {random.nextInt(3), random.nextInt(4), random.nextInt(9)};
            text.append(new String[] {" from ", " field ", " over "}[asks[i][0]]).append(asks[i][1]);
            text.append(asks[i][0] == 2 ? " " + asks[i][2] : "");
        }
        Due.due(26, text.toString(), Due.read(x, text + ";"), 1);
        for (int bearer = 0; bearer < 2; bearer++) {
            int[] due = leastByAllSets(x, papers, asks, bearer);
            Due.due(29, "least set of " + text, x.least(bearer, 0, 6, 0), due[0]);
            Due.due(29, "least weight of " + text, x.least(bearer, 0, 6, 1), due[1]);
        }
    }

    private static boolean fits(int[] paper, int[] ask) {
        return ask[0] == 0 ? paper[0] == ask[1] : ask[0] == 1 || paper[5 + ask[1]] >= ask[2];
    }

    private static int[] leastByAllSets(PaperPocket x, int[][] papers, int[][] asks, int bearer) {
        int[] best = {Due.NONE, Due.NONE};
        boolean[] usable = new boolean[papers.length];
        for (int p = 0; p < papers.length; p++) {
            usable[p] = papers[p][1] == bearer && x.holds(p, 0, 6) == 0;
        }
        for (int set = 0; set < 1 << papers.length; set++) {
            boolean[] fitted = new boolean[asks.length];
            boolean good = true;
            int weight = 0;
            for (int p = 0; p < papers.length; p++) {
                if ((set >> p & 1) == 1) {
                    good &= usable[p];
                    weight++;
                    for (int a = 0; a < asks.length; a++) {
                        boolean one = fits(papers[p], asks[a]);
                        fitted[a] |= one;
                        weight += one ? 1 : 0;
                    }
                }
            }
            for (boolean one : fitted) {
                good &= one;
            }
            if (good && (best[0] == Due.NONE || weight < best[1])) {
                best[0] = set;
                best[1] = weight;
            }
        }
        return best;
    }

    private static void queueOfRandomWorks(Random random) {
        PaperPocket x = new PaperPocket();
        int n = 1 + random.nextInt(7);
        int[] items = new int[2 * n];
        int span = new int[] {1, 5, 20, 300, 1000}[random.nextInt(5)];
        int length = new int[] {1, 3, 20, 99}[random.nextInt(4)];
        for (int i = 0; i < n; i++) {
            items[2 * i] = random.nextInt(span);
            items[2 * i + 1] = 1 + random.nextInt(length);
        }
        Due.fill(x, 3, items);
        int[] best = new int[n + 1];
        best[n] = Integer.MAX_VALUE;
        orders(items, new int[n], 0, best);
        Due.due(32, "least sum", x.queue(3, 0, n, -1), best[n]);
        for (int k = 0; k < n; k++) {
            Due.due(32, "work " + k, x.queue(3, 0, n, k), best[k]);
        }
    }

    /** Goes through all rows of numbers in their order and keeps the first of the least sum. */
    private static void orders(int[] items, int[] order, int depth, int[] best) {
        int n = order.length;
        if (depth < n) {
            for (int work = 0; work < n; work++) {
                boolean free = true;
                for (int i = 0; i < depth; i++) {
                    free &= order[i] != work;
                }
                if (free) {
                    order[depth] = work;
                    orders(items, order, depth + 1, best);
                }
            }
            return;
        }
        int time = 0;
        int sum = 0;
        for (int work : order) {
            time = Math.max(time, items[2 * work]);
            sum += time - items[2 * work];
            time += items[2 * work + 1];
        }
        if (sum < best[n]) {
            System.arraycopy(order, 0, best, 0, n);
            best[n] = sum;
        }
    }
}
