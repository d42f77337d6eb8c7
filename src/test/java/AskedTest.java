/** Promises 33 to 39. */
public final class AskedTest {
    public static void main(String[] args) {
        day();
        kinds();
        as();
        asks();
        asksOfGoneOnes();
        trace();
        count();
        status();
        Due.end();
    }

    private static void day() {
        PaperPocket x = new PaperPocket();
        Due.due(33, "day(999)", x.day(999), 0);
        Due.due(33, "day(-1)", x.day(-1), Due.BAD);
        Due.due(33, "day(1000)", x.day(1000), Due.BAD);
        Due.due(33, "day(0)", x.day(0), 999);
        Due.due(33, "day(0)", x.day(0), 0);
    }

    /** Papers 0 to 4 of the sorts 0 to 4, of offices 3, 2, 1, 0, 3, each of ten days. */
    private static PaperPocket fiveSorts() {
        PaperPocket x = new PaperPocket();
        int[] offices = {3, 2, 1, 0, 3};
        for (int sort = 0; sort < 5; sort++) {
            Due.tell(x, offices[sort], 0, sort, 11, 20, 100 + sort, 2, 300, 4);
        }
        return x;
    }

    private static void kinds() {
        PaperPocket x = fiveSorts();
        for (int p = 0; p < 5; p++) {
            Due.due(34, "kind(" + p + ")", x.kind(p), p);
        }
        for (int p = 0; p < 5; p++) {
            x.revoke(p, 50);
        }
        x.day(49);
        for (int p = 0; p < 5; p++) {
            Due.due(34, "a day ahead", x.kind(p), p);
        }
        Due.due(38, "count(2)", x.count(2), 0);
        x.day(50);
        for (int p = 0; p < 5; p++) {
            Due.due(34, "that day", x.kind(p), 5);
        }
        Due.due(38, "count(2)", x.count(2), 5);
        x.day(0);
        Due.due(34, "back again", x.kind(2), 2);
        x.day(999);
        Due.tell(x, 0, 0, 4, 0, 0, 0, 0, 0, 0);
        Due.due(34, "not taken back, on the last day", x.kind(5), 4);
        Due.due(34, "kind(6)", x.kind(6), Due.BAD);
        Due.due(34, "kind(-1)", x.kind(-1), Due.BAD);
        Due.due(34, "kind(12)", x.kind(12), Due.BAD);
    }

    private static void as() {
        PaperPocket x = fiveSorts();
        int[] offices = {3, 2, 1, 0, 3};
        for (int p = 0; p < 5; p++) {
            for (int kind = 0; kind < 6; kind++) {
                boolean such = kind == 0 || kind == p || p == 2 && kind == 1;
                Due.due(35, "as(" + p + ", " + kind + ")", x.as(p, kind), such ? offices[p] : Due.KIND);
                Due.due(39, "status()", x.status(), such ? 0 : 3);
            }
        }
        x.revoke(2, 0);
        Due.due(35, "a gone one", x.as(2, 5), 1);
        Due.due(35, "it is a paper, too", x.as(2, 0), 1);
        Due.due(35, "it is told as gone, no longer as short", x.as(2, 2), Due.KIND);
        Due.due(35, "nor as a stamp", x.as(2, 1), Due.KIND);
        Due.due(35, "as(5, 0)", x.as(5, 0), Due.BAD);
        Due.due(35, "as(-1, 0)", x.as(-1, 0), Due.BAD);
        Due.due(35, "as(0, -1)", x.as(0, -1), Due.BAD);
        Due.due(35, "as(0, 6)", x.as(0, 6), Due.BAD);
        Due.due(39, "status() stays behind BAD", x.status(), 3);
    }

    private static void askDue(PaperPocket x, int paper, int what, int want, int... trace) {
        Due.due(36, "ask(" + paper + ", " + what + ")", x.ask(paper, what), want);
        for (int i = 0; i < trace.length; i++) {
            Due.due(37, "trace(" + i + ") of ask(" + paper + ", " + what + ")", x.trace(i), trace[i]);
        }
        Due.due(37, "no more of ask(" + paper + ", " + what + ")", x.trace(trace.length), Due.NONE);
    }

    private static void asks() {
        PaperPocket x = fiveSorts();
        askDue(x, 0, 0, 10, 10);
        askDue(x, 1, 0, 10 + 101, 11, 10);
        askDue(x, 2, 0, 2 * (10 + 102), 12, 11, 10);
        askDue(x, 3, 0, 10 + 3 + 300, 13, 10, 22, 20);
        askDue(x, 4, 0, 10, 10);
        askDue(x, 0, 1, 0, 20);
        askDue(x, 1, 1, 1, 20);
        askDue(x, 2, 1, 2 + 2 * (10 + 102), 21, 20, 12, 11, 10);
        askDue(x, 3, 1, 3 + 300, 22, 20);
        askDue(x, 4, 1, 4 + 1000, 23, 20);
        Due.due(36, "ask(5, 0)", x.ask(5, 0), Due.BAD);
        Due.due(36, "ask(-1, 0)", x.ask(-1, 0), Due.BAD);
        Due.due(36, "ask(0, -1)", x.ask(0, -1), Due.BAD);
        Due.due(36, "ask(0, 2)", x.ask(0, 2), Due.BAD);
        Due.due(37, "what is BAD leaves the trace", x.trace(0), 23);
        for (int f = 0; f < 4; f++) {
            int[] items = {0, 0, 3, 0, 999, 7, 7, 7, 7};
            items[5 + f] = 900;
            int p = Due.tell(x, items);
            askDue(x, p, 1, p + 900, 22, 20);
            askDue(x, p, 0, 1000 + p + 900, 13, 10, 22, 20);
        }
    }

    private static void asksOfGoneOnes() {
        PaperPocket x = fiveSorts();
        for (int p = 0; p < 5; p++) {
            x.revoke(p, 1);
        }
        x.day(1);
        for (int p = 0; p < 5; p++) {
            askDue(x, p, 0, -10, 14, 10);
            askDue(x, p, 1, p, 20);
        }
    }

    private static void trace() {
        PaperPocket x = fiveSorts();
        Due.due(37, "empty", x.trace(0), Due.NONE);
        x.ask(2, 1);
        int[] wrong = {-1, 5, 15, 16, Integer.MIN_VALUE, Integer.MAX_VALUE};
        for (int i : wrong) {
            Due.due(37, "trace(" + i + ")", x.trace(i), Due.NONE);
        }
        Due.due(37, "trace(4)", x.trace(4), 10);
    }

    private static void count() {
        PaperPocket x = new PaperPocket();
        x.sheet(0, 0, 0);
        x.sheet(5, 0, 60);
        Due.tell(x, 0, 0, 0, 0, 0, 0, 0, 0, 0);
        Due.tell(x, 0, 0, 0, 0, 0, 0, 0, 0, 0);
        x.key(0, 1, 1);
        x.key(3, 1, 1);
        x.key(3, 1, 1);
        x.seen(0, 0, 0);
        x.feed(0, 5);
        x.revoke(1, 7);
        int[] due = {3, 2, 0, 3, 1, 5};
        for (int what = 0; what < 6; what++) {
            Due.due(38, "count(" + what + ")", x.count(what), due[what]);
        }
        x.day(7);
        Due.due(38, "count(2)", x.count(2), 1);
        x.day(6);
        Due.due(38, "count(2)", x.count(2), 0);
        Due.due(38, "count(-1)", x.count(-1), Due.BAD);
        Due.due(38, "count(6)", x.count(6), Due.BAD);
    }

    /** Calls that have no sheet and are not as() leave the status, whatever they answer. */
    private static void status() {
        PaperPocket x = fiveSorts();
        Due.due(39, "status()", x.status(), 0);
        x.as(0, 5);
        int[] answers = {
            x.key(0, 0, 0), x.key(0, 0, 1), x.keyOn(0, 0), x.close(0, 0, 0), x.close(0, 0, 0), x.told(0, 0), x.show(0, 0, 0),
            x.lies(0, 0), x.over(0, 0, 999), x.over(0, 0, 0), x.isOver(0, 0, 0, 0), x.secret(0, 1), x.answer(0, 0, 0, 0),
            x.taken(0, 0, 0, 0), x.odds(0, 0, 0), x.part(0, 1, 1), x.book(0, 0), x.revoke(0, 0), x.holds(0, 0, 0), x.feed(0, 1),
            x.doors(), x.fault(), x.door(0, 0), x.least(0, 0, 0, 0), x.seen(0, 0, 0), x.together(1), x.day(0), x.kind(0),
            x.ask(0, 0), x.trace(0), x.count(0), x.status(),
        };
        Due.due(39, "all of them were called", answers.length, 32);
        Due.due(39, "status() is as it was", x.status(), 3);
        x.sheet(0, 0, 1);
        Due.due(39, "status() behind a good one", x.status(), 0);
        x.paper(1, 0);
        Due.due(39, "status() of NULL", x.status(), 1);
        x.copy(0, 0, 0, 0, 1);
        Due.due(39, "status() behind a good one", x.status(), 0);
    }
}
