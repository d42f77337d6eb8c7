/**
 * The edges of THE DAY, KINDS, ASKS and status(), promises 33 to 39: what each sentence of the document names has a
 * test of its own.
 */
public final class AskedEdgesTest {
    private static final int MAX = Integer.MAX_VALUE, MIN = Integer.MIN_VALUE;
    private static final int[] OFFICES = {3, 2, 1, 0, 3};

    public static void main(String[] args) {
        Due.runAll(AskedEdgesTest.class);
    }

    /** Papers 0 to 4 of the sorts 0 to 4, each of ten days, with the fields 100 and the sort, 2, 300, 4. */
    private static PaperPocket fiveSorts() {
        PaperPocket x = new PaperPocket();
        for (int sort = 0; sort < 5; sort++) {
            Due.tell(x, OFFICES[sort], 0, sort, 11, 20, 100 + sort, 2, 300, 4);
        }
        return x;
    }

    // ---- Promise 33

    /** Promise 33: "THE DAY: what it was." 0 at first; it may go back, too. */
    static void theDayBecomesAnother() {
        PaperPocket x = new PaperPocket();
        Due.due(33, "day(999)", x.day(999), 0);
        Due.due(33, "day(0)", x.day(0), 999);
        Due.due(33, "day(5)", x.day(5), 0);
    }

    /** Promise 33: "THE DAY: what it was. BAD." Days are 0 to 999. */
    static void noSuchDayIsBad() {
        PaperPocket x = new PaperPocket();
        x.day(7);
        for (int day : new int[] {-1, 1000, MIN, MAX}) {
            Due.due(33, "day(" + day + ")", x.day(day), Due.BAD);
        }
        Due.due(33, "it stayed", x.day(0), 7);
    }

    // ---- Promise 34

    /**
     * Promise 34: "KINDS of PAPERS: 0 PAPER; 1 STAMP, a PAPER: stamp; 2 SHORT, a STAMP: short; 3 GRADE, a PAPER: grade;
     * 4 LENT, a PAPER: lent"
     */
    static void kindsOfAllSorts() {
        PaperPocket x = fiveSorts();
        for (int p = 0; p < 5; p++) {
            Due.due(34, "kind(" + p + ")", x.kind(p), p);
        }
    }

    /** Promise 34: "5 GONE, a PAPER: TAKEN BACK from THE DAY (0 at first) or ahead." Not the day ahead of it. */
    static void goneFromThatDayOn() {
        PaperPocket x = fiveSorts();
        x.revoke(1, 50);
        Due.due(34, "on day 0", x.kind(1), 1);
        int[][] due = {{49, 1}, {50, 5}, {51, 5}, {999, 5}, {49, 1}};
        for (int[] one : due) {
            x.day(one[0]);
            Due.due(34, "on day " + one[0], x.kind(1), one[1]);
        }
    }

    /**
     * Promise 34: "TAKEN BACK from THE DAY (0 at first) or ahead." From day 0 on it is GONE at first, from day 999 on
     * the last day alone.
     */
    static void goneOnTheFirstAndOnTheLastDay() {
        PaperPocket x = fiveSorts();
        x.revoke(0, 0);
        x.revoke(1, 1);
        x.revoke(2, 999);
        Due.due(34, "from day 0 on", x.kind(0), 5);
        Due.due(34, "from day 1 on", x.kind(1), 1);
        x.day(998);
        Due.due(34, "ahead of day 999", x.kind(2), 2);
        x.day(999);
        Due.due(34, "on day 999", x.kind(2), 5);
        Due.due(34, "never TAKEN BACK", x.kind(4), 4);
    }

    /** Promise 34: "5 GONE, a PAPER: TAKEN BACK" By THE DAY alone: a DOOR's BOOK DAY and the PAPER's own days are no matter. */
    static void goneGoesByTheDayAlone() {
        PaperPocket x = fiveSorts();
        x.revoke(0, 0);
        x.book(0, 0);
        x.day(999);
        Due.due(34, "TAKEN BACK, and over", x.kind(0), 5);
        Due.due(34, "over, not TAKEN BACK", x.kind(1), 1);
    }

    /**
     * Promise 34: "It is told as the first that fits of GONE, SHORT, STAMP, GRADE, LENT, PAPER: by this it is asked."
     * GONE fits ahead of each SORT.
     */
    static void goneComesAheadOfAllSorts() {
        PaperPocket x = fiveSorts();
        for (int p = 0; p < 5; p++) {
            x.revoke(p, 0);
            Due.due(34, "kind(" + p + ")", x.kind(p), 5);
        }
    }

    /** Promise 34: "The KIND of a PAPER on THE DAY, as it is told. BAD." */
    static void kindOfNoSuchPaperIsBad() {
        PaperPocket x = new PaperPocket();
        Due.due(34, "there is none", x.kind(0), Due.BAD);
        Due.tell(x, 0, 0, 0, 0, 9, 0, 0, 0, 0);
        for (int paper : new int[] {-1, 1, 12, MIN, MAX}) {
            Due.due(34, "kind(" + paper + ")", x.kind(paper), Due.BAD);
        }
    }

    // ---- Promise 35

    /** Promise 35: "A PAPER is taken as one of a KIND (0 .. 5): its OFFICE." Each as its own KIND. */
    static void eachIsOfItsOwnKind() {
        PaperPocket x = fiveSorts();
        for (int p = 0; p < 5; p++) {
            Due.due(35, "as(" + p + ", " + p + ")", x.as(p, p), OFFICES[p]);
        }
        x.revoke(4, 0);
        Due.due(35, "as(4, 5)", x.as(4, 5), 3);
    }

    /** Promise 35: "KIND: it is no such one (each is a PAPER, SHORT ones are STAMPS, too)." Each is a PAPER. */
    static void eachIsAPaper() {
        PaperPocket x = fiveSorts();
        for (int p = 0; p < 5; p++) {
            Due.due(35, "as(" + p + ", 0)", x.as(p, 0), OFFICES[p]);
        }
        x.revoke(1, 0);
        Due.due(35, "a GONE one", x.as(1, 0), 2);
    }

    /**
     * Promise 35: "KIND: it is no such one (each is a PAPER, SHORT ones are STAMPS, too)." STAMPS are not SHORT, and no
     * other is a STAMP.
     */
    static void shortOnesAreStamps() {
        PaperPocket x = fiveSorts();
        Due.due(35, "a SHORT one as a STAMP", x.as(2, 1), 1);
        Due.due(35, "a STAMP as a SHORT one", x.as(1, 2), Due.KIND);
        for (int p : new int[] {0, 3, 4}) {
            Due.due(35, "as(" + p + ", 1)", x.as(p, 1), Due.KIND);
        }
    }

    /** Promise 35: "KIND: it is no such one (each is a PAPER, SHORT ones are STAMPS, too)." */
    static void noOneIsOfAnotherKind() {
        PaperPocket x = fiveSorts();
        for (int p = 0; p < 5; p++) {
            for (int kind = 1; kind <= 5; kind++) {
                if (kind != p && (p != 2 || kind != 1)) {
                    Due.due(35, "as(" + p + ", " + kind + ")", x.as(p, kind), Due.KIND);
                    Due.due(39, "status()", x.status(), 3);
                }
            }
        }
    }

    /**
     * Promise 35: "KIND: it is no such one (each is a PAPER, SHORT ones are STAMPS, too)." A GONE one is GONE and a
     * PAPER, from that day on and not ahead.
     */
    static void aGoneOneIsGoneFromItsDayOn() {
        PaperPocket x = fiveSorts();
        x.revoke(2, 50);
        x.day(49);
        Due.due(35, "as GONE, the day ahead", x.as(2, 5), Due.KIND);
        Due.due(35, "as SHORT, the day ahead", x.as(2, 2), 1);
        x.day(50);
        int[] due = {1, Due.KIND, Due.KIND, Due.KIND, Due.KIND, 1};
        for (int kind = 0; kind <= 5; kind++) {
            Due.due(35, "as(2, " + kind + ")", x.as(2, kind), due[kind]);
        }
    }

    /** Promise 35: "A PAPER is taken as one of a KIND (0 .. 5): its OFFICE. BAD" */
    static void asOfNoSuchPaperIsBad() {
        PaperPocket x = new PaperPocket();
        Due.due(35, "there is none", x.as(0, 0), Due.BAD);
        Due.tell(x, 0, 0, 0, 0, 9, 0, 0, 0, 0);
        for (int paper : new int[] {-1, 1, 12, MIN, MAX}) {
            Due.due(35, "as(" + paper + ", 0)", x.as(paper, 0), Due.BAD);
        }
    }

    /** Promise 35: "A PAPER is taken as one of a KIND (0 .. 5): its OFFICE. BAD" */
    static void asOfNoSuchKindIsBad() {
        PaperPocket x = fiveSorts();
        for (int kind : new int[] {-1, 6, MIN, MAX}) {
            Due.due(35, "as(0, " + kind + ")", x.as(0, kind), Due.BAD);
        }
    }

    // ---- Promise 36 and Terms, part 4

    private static void askDue(PaperPocket x, int paper, int what, int want, int... trace) {
        Due.due(36, "ask(" + paper + ", " + what + ")", x.ask(paper, what), want);
        for (int i = 0; i < trace.length; i++) {
            Due.due(37, "trace(" + i + ") of ask(" + paper + ", " + what + ")", x.trace(i), trace[i]);
        }
        Due.due(37, "no more of ask(" + paper + ", " + what + ")", x.trace(trace.length), Due.NONE);
    }

    /** Promise 36: "0 SIZE: 10 lent to all PAPERS: days it has." One day at least, 1000 at most. */
    static void sizeOfAPaperIsItsDays() {
        PaperPocket x = new PaperPocket();
        Due.tell(x, 0, 0, 0, 999, 999, 0, 0, 0, 0);
        Due.tell(x, 0, 0, 0, 0, 999, 0, 0, 0, 0);
        Due.tell(x, 0, 0, 4, 5, 6, 0, 0, 0, 0);
        askDue(x, 0, 0, 1, 10);
        askDue(x, 1, 0, 1000, 10);
        askDue(x, 2, 0, 2, 10);
    }

    /** Promise 36: "11 of STAMPS: what 10 gives, and FIELD 0." From 1 to 1999. */
    static void sizeOfAStamp() {
        PaperPocket x = new PaperPocket();
        Due.tell(x, 0, 0, 1, 7, 7, 0, 9, 9, 9);
        Due.tell(x, 0, 0, 1, 0, 999, 999, 9, 9, 9);
        askDue(x, 0, 0, 1, 11, 10);
        askDue(x, 1, 0, 1999, 11, 10);
    }

    /** Promise 36: "12 of SHORT ones: what 11 gives, twice." From 2 to 3998. */
    static void sizeOfAShortOne() {
        PaperPocket x = new PaperPocket();
        Due.tell(x, 0, 0, 2, 7, 7, 0, 9, 9, 9);
        Due.tell(x, 0, 0, 2, 0, 999, 999, 9, 9, 9);
        askDue(x, 0, 0, 2, 12, 11, 10);
        askDue(x, 1, 0, 3998, 12, 11, 10);
    }

    /** Promise 36: "13 of GRADES: what 10 gives, and MARK." MARK is asked anew, so 22 begins behind 10. */
    static void sizeOfAGrade() {
        PaperPocket x = new PaperPocket();
        Due.tell(x, 0, 0, 3, 7, 7, 0, 0, 0, 0);
        Due.tell(x, 0, 0, 3, 0, 999, 0, 0, 0, 999);
        askDue(x, 0, 0, 1, 13, 10, 22, 20);
        askDue(x, 1, 0, 1000 + 1 + 999, 13, 10, 22, 20);
    }

    /** Promise 36: "14 of GONE ones: 0 less what 10 gives." From -1 to -1000, of whatever SORT. */
    static void sizeOfAGoneOne() {
        PaperPocket x = new PaperPocket();
        for (int sort = 0; sort < 5; sort++) {
            Due.tell(x, 0, 0, sort, 7, 7, 5, 5, 5, 5);
            Due.tell(x, 0, 0, sort, 0, 999, 5, 5, 5, 5);
            x.revoke(2 * sort, 0);
            x.revoke(2 * sort + 1, 0);
            askDue(x, 2 * sort, 0, -1, 14, 10);
            askDue(x, 2 * sort + 1, 0, -1000, 14, 10);
        }
    }

    /** Promise 36: "1 MARK: 20 lent to all PAPERS: its number." The least is 0, the greatest 11. */
    static void markOfAPaperIsItsNumber() {
        PaperPocket x = new PaperPocket();
        for (int p = 0; p < 12; p++) {
            Due.tell(x, 0, 0, p % 2, 0, 9, 5, 5, 5, 5);
            askDue(x, p, 1, p, 20);
        }
    }

    /** Promise 36: "21 of SHORT ones: what 20 gives, and SIZE." SIZE is asked anew: no trace is longer. */
    static void markOfAShortOne() {
        PaperPocket x = new PaperPocket();
        Due.tell(x, 0, 0, 2, 7, 7, 0, 9, 9, 9);
        Due.tell(x, 0, 0, 2, 0, 999, 999, 9, 9, 9);
        askDue(x, 0, 1, 2, 21, 20, 12, 11, 10);
        askDue(x, 1, 1, 3999, 21, 20, 12, 11, 10);
    }

    /** Promise 36: "22 of GRADES: what 20 gives, and the greatest FIELD." Whichever it is, and where all are alike. */
    static void markOfAGrade() {
        PaperPocket x = new PaperPocket();
        for (int field = 0; field < 4; field++) {
            int[] items = {0, 0, 3, 0, 9, 998, 998, 998, 998};
            items[5 + field] = 999;
            Due.tell(x, items);
            askDue(x, field, 1, field + 999, 22, 20);
        }
        Due.tell(x, 0, 0, 3, 0, 9, 0, 0, 0, 0);
        askDue(x, 4, 1, 4, 22, 20);
    }

    /** Promise 36: "23 of LENT ones: what 20 gives, and 1000." */
    static void markOfALentOne() {
        PaperPocket x = new PaperPocket();
        for (int p = 0; p < 12; p++) {
            Due.tell(x, 0, 0, 4, 0, 9, 0, 0, 0, 0);
        }
        askDue(x, 0, 1, 1000, 23, 20);
        askDue(x, 11, 1, 1011, 23, 20);
    }

    /**
     * Promise 36: "Of an ask the BODY told for the KIND begins, else that of the nearest KIND that it is, too, else the
     * one that is lent" A STAMP's MARK, a LENT one's SIZE and a GONE one's MARK are lent.
     */
    static void theLentBodyBeginsWhereNoneIsTold() {
        PaperPocket x = fiveSorts();
        askDue(x, 1, 1, 1, 20);
        askDue(x, 4, 0, 10, 10);
        for (int p = 0; p < 5; p++) {
            x.revoke(p, 0);
            askDue(x, p, 1, p, 20);
        }
    }

    /** Promise 36: "SIZE, MARK within others are asked of the same PAPER anew." So by its own KIND, not by the lent BODY. */
    static void withinOthersTheSamePaperIsAsked() {
        PaperPocket x = fiveSorts();
        askDue(x, 3, 0, 10 + 3 + 300, 13, 10, 22, 20);
        askDue(x, 2, 1, 2 + 2 * (10 + 102), 21, 20, 12, 11, 10);
    }

    /**
     * Promise 36: "by this it is asked." On the day from which it is GONE on it is asked as a GONE one, the day ahead
     * it is not.
     */
    static void aPaperIsAskedAsItIsToldOnTheDay() {
        PaperPocket x = fiveSorts();
        x.revoke(4, 50);
        x.day(49);
        askDue(x, 4, 1, 1004, 23, 20);
        x.day(50);
        askDue(x, 4, 1, 4, 20);
        askDue(x, 4, 0, -10, 14, 10);
        x.day(0);
        askDue(x, 4, 0, 10, 10);
    }

    /** Promise 36: "An ASK (0, 1) of a PAPER. BAD." */
    static void askOfNoSuchPaperIsBad() {
        PaperPocket x = new PaperPocket();
        Due.due(36, "there is none", x.ask(0, 0), Due.BAD);
        Due.tell(x, 0, 0, 0, 0, 9, 0, 0, 0, 0);
        for (int paper : new int[] {-1, 1, 12, MIN, MAX}) {
            Due.due(36, "ask(" + paper + ", 0)", x.ask(paper, 0), Due.BAD);
        }
    }

    /** Promise 36: "An ASK (0, 1) of a PAPER. BAD." */
    static void askOfAnotherWhatIsBad() {
        PaperPocket x = fiveSorts();
        for (int what : new int[] {-1, 2, MIN, MAX}) {
            Due.due(36, "ask(0, " + what + ")", x.ask(0, what), Due.BAD);
        }
        Due.due(37, "nothing began", x.trace(0), Due.NONE);
    }

    /** Promise 36: "THE TRACE is empty ahead of it." What an ASK left is gone with the next, unless that is BAD. */
    static void theTraceIsEmptyAheadOfAnAsk() {
        PaperPocket x = fiveSorts();
        askDue(x, 2, 1, 226, 21, 20, 12, 11, 10);
        x.ask(5, 0);
        x.ask(0, 2);
        Due.due(37, "a BAD one leaves it", x.trace(4), 10);
        askDue(x, 0, 0, 10, 10);
        Due.due(37, "trace(4)", x.trace(4), Due.NONE);
    }

    // ---- Promise 37

    /** Promise 37: "Number i of THE TRACE; NONE." Empty at first; below 0, behind the last and far beyond there is none. */
    static void noneWhereTheTraceHasNone() {
        PaperPocket x = fiveSorts();
        for (int i : new int[] {-1, 0, 1, 15, 16, MIN, MAX}) {
            Due.due(37, "at first trace(" + i + ")", x.trace(i), Due.NONE);
        }
        x.ask(2, 1);
        for (int i : new int[] {-1, 5, 15, 16, 17, MIN, MAX}) {
            Due.due(37, "behind an ask trace(" + i + ")", x.trace(i), Due.NONE);
        }
        Due.due(37, "trace(0)", x.trace(0), 21);
        Due.due(37, "trace(4)", x.trace(4), 10);
    }

    /**
     * Promise 37: "ASKS of PAPERS, by BODIES, each of which leaves its number in THE TRACE as it begins (the first 16)"
     * No ask of any KIND comes near 16.
     */
    static void noAskComesNear16() {
        PaperPocket x = fiveSorts();
        for (int p = 0; p < 5; p++) {
            for (int what = 0; what <= 1; what++) {
                x.ask(p, what);
                Due.due(37, "the first is there", x.trace(0) == Due.NONE ? 1 : 0, 0);
                Due.due(37, "trace(15)", x.trace(15), Due.NONE);
                Due.due(37, "trace(16)", x.trace(16), Due.NONE);
            }
        }
    }

    // ---- Promise 38

    /**
     * Promise 38: "How many: 0 SHEETS, 1 PAPERS, 2 GONE ones on THE DAY, 3 KEYS told, 4 SEEN ones, 5 bytes on the
     * tape." All as full as they get.
     */
    static void theMostOfAll() {
        PaperPocket x = new PaperPocket();
        for (int sheet = 0; sheet <= 7; sheet++) {
            x.sheet(sheet, 0, 9);
        }
        for (int p = 0; p < 12; p++) {
            x.paper(0, 0);
            x.revoke(p, 0);
        }
        for (int i = 0; i < 24; i++) {
            x.key(i % 4, 1, 1);
        }
        for (int i = 0; i < 30; i++) {
            x.seen(0, 0, 0);
        }
        Due.feed(x, " ".repeat(300));
        int[] due = {8, 12, 12, 24, 30, 300};
        for (int what = 0; what <= 5; what++) {
            Due.due(38, "count(" + what + ")", x.count(what), due[what]);
        }
    }

    /** Promise 38: "2 GONE ones on THE DAY" From the day on, not the day ahead. */
    static void goneOnesAreCountedOnTheDay() {
        PaperPocket x = fiveSorts();
        x.revoke(0, 0);
        x.revoke(1, 50);
        x.revoke(2, 999);
        int[][] due = {{0, 1}, {49, 1}, {50, 2}, {998, 2}, {999, 3}, {0, 1}};
        for (int[] one : due) {
            x.day(one[0]);
            Due.due(38, "count(2) on " + one[0], x.count(2), one[1]);
        }
    }

    /** Promise 38: "0 SHEETS" One without ITEMS counts, one that is missing does not. */
    static void emptySheetsAreCounted() {
        PaperPocket x = new PaperPocket();
        x.sheet(7, 0, 0);
        Due.due(38, "count(0)", x.count(0), 1);
        x.sheet(7, 0, 60);
        Due.due(38, "count(0)", x.count(0), 1);
        x.drop(7);
        Due.due(38, "count(0)", x.count(0), 0);
    }

    /** Promise 38: "5 bytes on the tape. BAD." */
    static void countOfAnotherWhatIsBad() {
        PaperPocket x = new PaperPocket();
        for (int what : new int[] {-1, 6, MIN, MAX}) {
            Due.due(38, "count(" + what + ")", x.count(what), Due.BAD);
        }
    }

    // ---- Promise 39

    /** Promise 39: "0: it had none, or there was none." Before any call, and behind a good one. */
    static void statusIs0WithoutAFinding() {
        PaperPocket x = new PaperPocket();
        Due.due(39, "there was none", x.status(), 0);
        x.drop(0);
        Due.due(39, "behind NULL", x.status(), 1);
        Due.due(39, "asking for it leaves it", x.status(), 1);
        x.sheet(0, 0, 1);
        Due.due(39, "it had none", x.status(), 0);
    }

    /**
     * Promise 39: "Of the latest call with a SHEET, or as(), that was not BAD, STATE, FULL: the number of its FINDING"
     * Each such call has its FINDING told, and each good one 0.
     */
    static void eachCallWithASheetAndAsHaveAStatus() {
        PaperPocket x = fiveSorts();
        x.sheet(0, 2, 9);
        int[][] found = {
            {x.sheet(1, 0, -1), x.status()}, {x.set(0, 0, 0), x.status()},
            {x.set(0, 9, 0), x.status()}, {x.sheet(2, 0, 1), x.status()},
            {x.copy(0, 0, 2, 0, 1), x.status()}, {x.copy(0, 0, 0, 1, 1), x.status()},
            {x.drop(3), x.status()}, {x.drop(2), x.status()},
            {x.paper(3, 0), x.status()}, {x.paper(0, 0), x.status()},
            {x.check(0, 0, 0, 8, 2), x.status()}, {x.check(0, 0, 0, 0, 2), x.status()},
            {x.friends(3, 0, 1, 0), x.status()}, {x.set(0, 0, 1), x.status()},
            {x.queue(0, 8, 1, 0), x.status()}, {x.friends(0, 0, 1, 0), x.status()},
            {x.as(0, 1), x.status()}, {x.set(0, 1, 1), x.status()},
            {x.drop(3), x.status()}, {x.queue(0, 0, 1, 0), x.status()},
            {x.drop(3), x.status()}, {x.as(0, 0), x.status()},
        };
        int[] due = {4, 0, 2, 0, 5, 0, 1, 0, 1, 0, 2, 0, 1, 0, 2, 0, 3, 0, 1, 0, 1, 0};
        for (int i = 0; i < due.length; i++) {
            Due.due(39, "status() of call " + i, found[i][1], due[i]);
            Due.due(39, "its answer is a FINDING or is none", found[i][0] <= -1000011 ? -1000010 - found[i][0] : 0, due[i]);
        }
    }

    /** Promise 39: "that was not BAD, STATE, FULL" Behind a BAD one, of whichever of these calls, status() is as it was. */
    static void aBadCallLeavesTheStatus() {
        PaperPocket x = fiveSorts();
        Due.fill(x, 0, 9, 9, 9, 9, 9, 9, 9, 9, 9);
        x.as(0, 5);
        int[] answers = {
            x.sheet(8, 0, -1), x.sheet(0, 3, -1), x.sheet(0, 0, 61), x.set(8, 0, 0), x.copy(8, 0, 0, 0, 1), x.copy(0, 0, 8, 0, 1),
            x.drop(8), x.paper(8, 0), x.paper(0, 0), x.check(9, 0, 0, 0, 2), x.check(0, 15, 0, 0, 2), x.check(0, 16, 1, 0, 2),
            x.friends(0, 0, 7, 0), x.friends(0, 0, 1, 0), x.queue(0, 0, 8, 0), x.queue(0, 0, 1, 1), x.as(9, 0), x.as(0, 6),
        };
        for (int i = 0; i < answers.length; i++) {
            Due.due(39, "call " + i, answers[i], Due.BAD);
        }
        Due.due(39, "status()", x.status(), 3);
    }

    /** Promise 39: "that was not BAD, STATE, FULL" The 13th PAPER is FULL. */
    static void aFullCallLeavesTheStatus() {
        PaperPocket x = new PaperPocket();
        x.sheet(0, 0, 9);
        for (int p = 0; p < 12; p++) {
            x.paper(0, 0);
        }
        x.set(0, 9, 0);
        Due.due(9, "paper(0, 0)", x.paper(0, 0), Due.FULL);
        Due.due(39, "status()", x.status(), 2);
    }

    /** Promise 39: "Of the latest call with a SHEET, or as()" Calls without a SHEET leave it, good ones and refused ones. */
    static void callsWithoutASheetLeaveTheStatus() {
        PaperPocket x = fiveSorts();
        x.sheet(0, 0, -1);
        int[] before = {
            x.key(0, 1, 1), x.key(4, 1, 1), x.keyOn(0, 0), x.close(0, 0, 5), x.close(0, 0, 5), x.told(0, 0), x.show(0, 0, 0),
            x.show(0, 0, 9), x.lies(0, 0), x.over(0, 0, 0), x.over(0, 1, 999), x.isOver(0, 0, 0, 0), x.secret(0, 5),
            x.answer(0, 0, 0, 0), x.taken(0, 0, 0, 0), x.odds(0, 0, 0), x.part(0, 1, 1), x.book(0, 5), x.revoke(0, 5),
            x.revoke(0, 5), x.holds(0, 0, 5), x.feed(120, 1), x.doors(), x.fault(), x.door(0, 0), x.least(0, 0, 0, 0),
            x.seen(0, 0, 0), x.together(1), x.together(0), x.day(5), x.kind(0), x.ask(0, 0), x.trace(0), x.count(0),
        };
        Due.due(39, "that many calls", before.length, 34);
        Due.due(39, "status()", x.status(), 4);
    }
}
