import java.util.Random;

/**
 * Runs of 512 random calls, wrong numbers among them: none throws, two objects answer alike,
 * and what is refused or found changes nothing but status().
 */
public final class RefusedTest {
    private static final int CALLS = 38;
    private static final int[] EDGES = {
        Integer.MIN_VALUE, Integer.MIN_VALUE + 1, -1000, -2, -1, 0, 1, 2, 3, 4, 5, 6, 7, 8, 9, 11, 12, 15, 16, 22, 23, 46, 47,
        59, 60, 61, 256, 257, 999, 1000, 65520, 65521, 1 << 30, Integer.MAX_VALUE - 1, Integer.MAX_VALUE,
    };
    private static final String[] TEXTS = {
        "door 0 from 1 field 2;", "right 1 0 2;", "door 1 over 0 5 over 3 1;", "door 2", " 9;", "\n", "door 3;", "right 0;", "x", "from",
    };

    public static void main(String[] args) {
        Random random = new Random(39);
        for (int run = 0; run < 300; run++) {
            run(random);
        }
        Due.end();
    }

    private static void run(Random random) {
        PaperPocket x = new PaperPocket();
        PaperPocket twin = new PaperPocket();
        int wild = 1 + random.nextInt(20);
        for (int call = 0; call < 512; call++) {
            int which = random.nextInt(CALLS + 2);
            int[] a = new int[5];
            for (int i = 0; i < 5; i++) {
                a[i] = random.nextInt(wild) == 0 ? EDGES[random.nextInt(EDGES.length)] : random.nextInt(1 + random.nextInt(12));
            }
            if (which == CALLS) {
                tellSome(x, twin, random);
            } else if (which > CALLS) {
                String text = TEXTS[random.nextInt(TEXTS.length)];
                Due.feed(x, text);
                Due.feed(twin, text);
            } else {
                one(x, twin, which, a);
            }
        }
        Due.due(1, "two objects of the same calls", digest(x), digest(twin));
    }

    private static void one(PaperPocket x, PaperPocket twin, int which, int[] a) {
        long before = digest(x);
        int got = answer(x, which, a);
        Due.due(1, "call " + which + " on a twin", answer(twin, which, a), got);
        // An item may be set to any number, one that looks like a refusal among them.
        boolean refused = got <= Due.BAD && got >= Due.STORE && which != 1;
        if (refused) {
            Due.due(39, "call " + which + " answered " + got + " and changed something", digest(x), before);
            if (got <= -1000011) {
                Due.due(39, "status() behind " + got, x.status(), -1000010 - got);
            }
        }
    }

    private static void tellSome(PaperPocket x, PaperPocket twin, Random random) {
        int[] items = {random.nextInt(4), random.nextInt(6), random.nextInt(5), random.nextInt(9), random.nextInt(30),
            random.nextInt(1000), random.nextInt(9), random.nextInt(9), random.nextInt(9)};
        Due.tell(x, items);
        Due.tell(twin, items);
    }

    private static int answer(PaperPocket x, int which, int[] a) {
        switch (which) {
            case 0: return x.sheet(a[0], a[1], a[2]);
            case 1: return x.set(a[0], a[1], a[2]);
            case 2: return x.copy(a[0], a[1], a[2], a[3], a[4]);
            case 3: return x.drop(a[0]);
            case 4: return x.key(a[0], a[1], a[2]);
            case 5: return x.keyOn(a[0], a[1]);
            case 6: return x.close(a[0], a[1], a[2]);
            case 7: return x.paper(a[0], a[1]);
            case 8: return x.told(a[0], a[1]);
            case 9: return x.show(a[0], a[1], a[2]);
            case 10: return x.check(a[0], a[1], a[2], a[3], a[4]);
            case 11: return x.lies(a[0], a[1]);
            case 12: return x.over(a[0], a[1], a[2]);
            case 13: return x.isOver(a[0], a[1], a[2], a[3]);
            case 14: return x.secret(a[0], a[1]);
            case 15: return x.answer(a[0], a[1], a[2], a[3]);
            case 16: return x.taken(a[0], a[1], a[2], a[3]);
            case 17: return x.odds(a[0], a[1], a[2]);
            case 18: return x.part(a[0], a[1], a[2]);
            case 19: return x.friends(a[0], a[1], a[2], a[3]);
            case 20: return x.book(a[0], a[1]);
            case 21: return x.revoke(a[0], a[1]);
            case 22: return x.holds(a[0], a[1], a[2]);
            case 23: return x.feed((long) a[0] << 32 ^ a[1], a[2]);
            case 24: return x.door(a[0], a[1]);
            case 25: return x.doors();
            case 26: return x.least(a[0], a[1], a[2], a[3]);
            case 27: return x.seen(a[0], a[1], a[2]);
            case 28: return x.together(a[0]);
            case 29: return x.queue(a[0], a[1], a[2], a[3]);
            case 30: return x.day(a[0]);
            case 31: return x.kind(a[0]);
            case 32: return x.as(a[0], a[1]);
            case 33: return x.ask(a[0], a[1]);
            case 34: return x.trace(a[0]);
            case 35: return x.count(a[0]);
            case 36: return x.fault();
            default: return x.status();
        }
    }

    /** All that can be looked at without changing it, but for status(). */
    private static long digest(PaperPocket x) {
        long sum = x.fault();
        for (int i = 0; i < 17; i++) {
            sum = 31 * sum + x.trace(i);
            sum = 31 * sum + x.count(i);
            sum = 31 * sum + x.door(i / 3, i % 3);
            sum = 31 * sum + x.secret(i, 0);
            sum = 31 * sum + x.kind(i);
            sum = 31 * sum + x.together(1 << i);
        }
        for (int i = 0; i < 48; i++) {
            sum = 31 * sum + x.keyOn(i % 4, i);
            sum = 31 * sum + x.holds(i % 12, i / 12, 10);
            sum = 31 * sum + x.told(i % 12, i / 12);
            sum = 31 * sum + x.least(i % 6, i / 12, 10, 1);
        }
        return sum;
    }
}
