/** The edges of DOORS, LEAST, SEEN and QUEUE, promises 22 to 24 and 28 to 32: what each sentence names has a test of its own. */
public final class DoorsEdgesTest {
    private static final int MAX = Integer.MAX_VALUE, MIN = Integer.MIN_VALUE;
    private static final int[] NO_DAYS = {-1, 1000, MIN, MAX};
    private static final int[] NO_DOORS = {-1, 4, MIN, MAX};
    private static final int[] NO_BEARERS = {-1, 6, MIN, MAX};

    public static void main(String[] args) {
        Due.runAll(DoorsEdgesTest.class);
    }

    /** A pocket with one paper of office 1, bearer 0, of the days 10 to 90. */
    private static PaperPocket onePaper() {
        PaperPocket x = new PaperPocket();
        Due.tell(x, 1, 0, 0, 10, 90, 0, 0, 0, 0);
        return x;
    }

    // ---- Promise 22

    /** Promise 1: "DOORS 0 .. 3: each has a BOOK DAY (0 at first)." */
    static void bookDaysAre0AtFirst() {
        PaperPocket x = new PaperPocket();
        for (int door = 0; door <= 3; door++) {
            Due.due(22, "book(" + door + ", 5)", x.book(door, 5), 0);
        }
    }

    /** Promise 22: "A DOOR's BOOK DAY: what it was." It may go back, too. */
    static void aBookDayBecomesAnother() {
        PaperPocket x = new PaperPocket();
        Due.due(22, "book(3, 999)", x.book(3, 999), 0);
        Due.due(22, "book(3, 0)", x.book(3, 0), 999);
        Due.due(22, "book(3, 0)", x.book(3, 0), 0);
        Due.due(22, "another door", x.book(2, 7), 0);
    }

    /** Promise 22: "A DOOR's BOOK DAY: what it was. BAD." */
    static void bookOfNoSuchDoorIsBad() {
        PaperPocket x = new PaperPocket();
        for (int door : NO_DOORS) {
            Due.due(22, "book(" + door + ", 0)", x.book(door, 0), Due.BAD);
        }
    }

    /** Promise 22: "Days are 0 to 999." */
    static void bookOfNoSuchDayIsBad() {
        PaperPocket x = new PaperPocket();
        x.book(1, 8);
        for (int day : NO_DAYS) {
            Due.due(22, "book(1, " + day + ")", x.book(1, day), Due.BAD);
        }
        Due.due(22, "it stayed", x.book(1, 0), 8);
    }

    // ---- Promise 23

    /** Promise 23: "TAKEN BACK: a PAPER from a day on (once)." */
    static void eachPaperIsTakenBackOnce() {
        PaperPocket x = new PaperPocket();
        for (int p = 0; p < 12; p++) {
            Due.tell(x, 0, 0, 0, 0, 9, 0, 0, 0, 0);
            Due.due(23, "revoke(" + p + ", 4)", x.revoke(p, 4), 1);
        }
        for (int p = 0; p < 12; p++) {
            Due.due(23, "revoke(" + p + ", 4) again", x.revoke(p, 4), Due.STATE);
        }
    }

    /**
     * Promise 23: "A PAPER is TAKEN BACK from a day on: 1. BAD; STATE: it was." Told for the last day, it was, too; the
     * first day stays.
     */
    static void theDayOfTheFirstTimeStays() {
        PaperPocket x = onePaper();
        Due.due(23, "revoke(0, 999)", x.revoke(0, 999), 1);
        Due.due(23, "revoke(0, 0)", x.revoke(0, 0), Due.STATE);
        Due.due(24, "it is not taken back from 0 on", x.holds(0, 0, 10), 0);
        Due.due(34, "kind(0)", x.kind(0), 0);
    }

    /** Promise 23: "A PAPER is TAKEN BACK from a day on: 1. BAD; STATE: it was." The days 0 and 999 are days like others. */
    static void aPaperIsTakenBackFromTheFirstDayOn() {
        PaperPocket x = onePaper();
        Due.due(23, "revoke(0, 0)", x.revoke(0, 0), 1);
        Due.due(24, "holds(0, 0, 10)", x.holds(0, 0, 10), 3);
        Due.due(34, "kind(0)", x.kind(0), 5);
    }

    /** Promise 23: "A PAPER is TAKEN BACK from a day on: 1. BAD; STATE: it was." */
    static void revokeOfNoSuchPaperIsBad() {
        PaperPocket x = new PaperPocket();
        Due.due(23, "there is none", x.revoke(0, 0), Due.BAD);
        Due.tell(x, 0, 0, 0, 0, 9, 0, 0, 0, 0);
        for (int paper : new int[] {-1, 1, 12, MIN, MAX}) {
            Due.due(23, "revoke(" + paper + ", 0)", x.revoke(paper, 0), Due.BAD);
        }
    }

    /** Promise 23: "Days are 0 to 999." */
    static void revokeOfNoSuchDayIsBad() {
        PaperPocket x = onePaper();
        for (int day : NO_DAYS) {
            Due.due(23, "revoke(0, " + day + ")", x.revoke(0, day), Due.BAD);
        }
        Due.due(23, "it was not", x.revoke(0, 0), 1);
    }

    // ---- Promise 24

    private static void holdsDue(PaperPocket x, int paper, int door, int... daysAndDue) {
        for (int i = 0; i < daysAndDue.length; i += 2) {
            int day = daysAndDue[i];
            Due.due(24, "holds(" + paper + ", " + door + ", " + day + ")", x.holds(paper, door, day), daysAndDue[i + 1]);
        }
    }

    /** Promise 24: "0 it holds; else the first that is so: 1 not yet; 2 over" The first and the last day are its days. */
    static void aPaperHoldsFromItsFirstToItsLastDay() {
        PaperPocket x = onePaper();
        holdsDue(x, 0, 0, 0, 1, 9, 1, 10, 0, 90, 0, 91, 2, 999, 2);
    }

    /** Promise 24: "0 it holds; else the first that is so: 1 not yet; 2 over" A PAPER of one day, and one of all days. */
    static void aPaperOfOneDayAndOneOfAllDays() {
        PaperPocket x = new PaperPocket();
        Due.tell(x, 0, 0, 0, 50, 50, 0, 0, 0, 0);
        Due.tell(x, 0, 0, 0, 0, 999, 0, 0, 0, 0);
        holdsDue(x, 0, 0, 49, 1, 50, 0, 51, 2);
        holdsDue(x, 1, 3, 0, 0, 999, 0);
    }

    /** Promise 24: "3 TAKEN BACK from a day that is BOOK DAY or ahead" */
    static void takenBackIsKnownFromTheBookDayOn() {
        PaperPocket x = onePaper();
        x.revoke(0, 40);
        x.book(0, 39);
        holdsDue(x, 0, 0, 40, 0, 90, 0);
        x.book(0, 40);
        holdsDue(x, 0, 0, 40, 3, 90, 3);
        x.book(0, 41);
        holdsDue(x, 0, 0, 40, 3, 90, 3);
        holdsDue(x, 0, 1, 40, 0);
    }

    /** Promise 24: "3 TAKEN BACK from a day that is BOOK DAY or ahead, and that day or ahead" */
    static void takenBackCountsFromItsDayOn() {
        PaperPocket x = onePaper();
        x.revoke(0, 40);
        x.book(0, 999);
        holdsDue(x, 0, 0, 10, 0, 39, 0, 40, 3, 90, 3);
    }

    /** Promise 24: "4 its OFFICE's END is BOOK DAY or ahead" */
    static void theEndIsKnownFromTheBookDayOn() {
        PaperPocket x = onePaper();
        x.close(1, 1, 40);
        x.book(0, 39);
        holdsDue(x, 0, 0, 40, 0, 90, 0);
        x.book(0, 40);
        holdsDue(x, 0, 0, 40, 4, 90, 4);
        x.book(0, 41);
        holdsDue(x, 0, 0, 40, 4, 90, 4);
        holdsDue(x, 0, 1, 40, 0);
    }

    /** Promise 24: "4 its OFFICE's END is BOOK DAY or ahead, and that day or ahead" */
    static void theEndCountsFromItsDayOn() {
        PaperPocket x = onePaper();
        x.close(1, 1, 40);
        x.book(0, 999);
        holdsDue(x, 0, 0, 10, 0, 39, 0, 40, 4, 90, 4);
    }

    /** Promise 24: "4 its OFFICE's END is BOOK DAY or ahead" Not another OFFICE's. */
    static void anotherOfficesEndDoesNotCount() {
        PaperPocket x = onePaper();
        x.book(0, 999);
        for (int office : new int[] {0, 2, 3}) {
            x.close(office, 0, 0);
            x.close(office, 1, 0);
        }
        holdsDue(x, 0, 0, 10, 0, 90, 0);
    }

    /** Promise 24: "5 its OFFICE is BURNT from a day that is BOOK DAY or ahead" */
    static void burningIsKnownFromTheBookDayOn() {
        PaperPocket x = onePaper();
        x.close(1, 0, 10);
        x.book(0, 9);
        holdsDue(x, 0, 0, 10, 0, 90, 0);
        x.book(0, 10);
        holdsDue(x, 0, 0, 10, 5, 90, 5);
        x.book(0, 11);
        holdsDue(x, 0, 0, 10, 5, 90, 5);
        holdsDue(x, 0, 1, 10, 0);
    }

    /**
     * Promise 24: "5 its OFFICE is BURNT from a day that is BOOK DAY or ahead, and its first day is that day or later."
     * One sealed ahead of the burning holds on.
     */
    static void burningCountsForPapersOfThatDayAndLater() {
        PaperPocket x = new PaperPocket();
        for (int first = 29; first <= 31; first++) {
            Due.tell(x, 2, 0, 0, first, 90, 0, 0, 0, 0);
        }
        x.close(2, 0, 30);
        x.book(0, 999);
        holdsDue(x, 0, 0, 29, 0, 30, 0, 90, 0);
        holdsDue(x, 1, 0, 30, 5, 90, 5);
        holdsDue(x, 2, 0, 31, 5, 90, 5);
    }

    /** Promise 24: "0 it holds; else the first that is so" */
    static void theFirstReasonIsTold() {
        PaperPocket x = onePaper();
        x.book(0, 999);
        x.close(1, 0, 0);
        holdsDue(x, 0, 0, 9, 1, 10, 5, 91, 2);
        x.close(1, 1, 0);
        holdsDue(x, 0, 0, 9, 1, 10, 4, 91, 2);
        x.revoke(0, 0);
        holdsDue(x, 0, 0, 9, 1, 10, 3, 91, 2);
    }

    /**
     * Promise 24: "DOORS 0 .. 3: each has a BOOK DAY (0 at first)." What is told from day 0 on is known at first, what
     * from day 1 on is not.
     */
    static void theFirstBookDayKnowsDay0() {
        PaperPocket x = onePaper();
        Due.tell(x, 2, 0, 0, 10, 90, 0, 0, 0, 0);
        x.revoke(0, 0);
        x.revoke(1, 1);
        holdsDue(x, 0, 0, 10, 3);
        holdsDue(x, 1, 0, 10, 0);
    }

    /** Promise 24: "HOLDS: a PAPER on a day at a DOOR" On the last day all of it counts. */
    static void theLastDayCounts() {
        PaperPocket x = new PaperPocket();
        Due.tell(x, 3, 0, 0, 999, 999, 0, 0, 0, 0);
        x.book(2, 999);
        holdsDue(x, 0, 2, 998, 1, 999, 0);
        x.close(3, 0, 999);
        holdsDue(x, 0, 2, 999, 5);
        x.close(3, 1, 999);
        holdsDue(x, 0, 2, 999, 4);
        x.revoke(0, 999);
        holdsDue(x, 0, 2, 999, 3);
    }

    /** Promise 24: "HOLDS (0 to 5). BAD: PAPER, DOOR, day." */
    static void holdsOfNoSuchPaperIsBad() {
        PaperPocket x = new PaperPocket();
        Due.due(24, "there is none", x.holds(0, 0, 0), Due.BAD);
        Due.tell(x, 0, 0, 0, 0, 9, 0, 0, 0, 0);
        for (int paper : new int[] {-1, 1, 12, MIN, MAX}) {
            Due.due(24, "holds(" + paper + ", 0, 0)", x.holds(paper, 0, 0), Due.BAD);
        }
    }

    /** Promise 24: "HOLDS (0 to 5). BAD: PAPER, DOOR, day." */
    static void holdsAtNoSuchDoorIsBad() {
        PaperPocket x = onePaper();
        for (int door : NO_DOORS) {
            Due.due(24, "holds(0, " + door + ", 10)", x.holds(0, door, 10), Due.BAD);
        }
    }

    /** Promise 24: "HOLDS (0 to 5). BAD: PAPER, DOOR, day." */
    static void holdsOnNoSuchDayIsBad() {
        PaperPocket x = onePaper();
        for (int day : NO_DAYS) {
            Due.due(24, "holds(0, 0, " + day + ")", x.holds(0, 0, day), Due.BAD);
        }
    }

    // ---- Promise 28

    /**
     * Promise 28: "A DOOR asks TOO MUCH, if it asks ('field' or 'over') a FIELD that it may not." By 'field', the first
     * FIELD and the last.
     */
    static void aFieldThatItMayNotAskIsTooMuch() {
        for (int field = 0; field <= 3; field++) {
            PaperPocket x = new PaperPocket();
            Due.read(x, "door 0 field " + field + ";right 0 " + field + ";");
            Due.due(28, "it may", x.door(0, 2), 0);
            Due.read(x, "right 0 " + (field + 1) % 4 + ";");
            Due.due(28, "it may not", x.door(0, 2), 1);
        }
    }

    /**
     * Promise 28: "A DOOR asks TOO MUCH, if it asks ('field' or 'over') a FIELD that it may not." By 'over', whatever
     * the bound.
     */
    static void overAFieldThatItMayNotAskIsTooMuch() {
        for (int field = 0; field <= 3; field++) {
            PaperPocket x = new PaperPocket();
            Due.read(x, "door 3 over " + field + " 0;right 3 " + field + ";");
            Due.due(28, "it may", x.door(3, 2), 0);
            Due.read(x, "right 3 " + (field + 3) % 4 + ";");
            Due.due(28, "it may not", x.door(3, 2), 1);
        }
    }

    /**
     * Promise 28: "A DOOR asks TOO MUCH, if it asks ('field' or 'over') a FIELD that it may not." 'from' asks no FIELD,
     * and the last of eight asks is enough.
     */
    static void fromIsNeverTooMuchAndOneAskIsEnough() {
        PaperPocket x = new PaperPocket();
        Due.read(x, "door 0 from 0 from 1 from 2 from 3;right 0;");
        Due.due(28, "'from' alone", x.door(0, 2), 0);
        Due.read(x, "door 0 " + "field 1 ".repeat(7) + "field 2;right 0 1;");
        Due.due(28, "the eighth", x.door(0, 2), 1);
        Due.read(x, "door 0 field 2 " + "field 1 ".repeat(7) + ";");
        Due.due(28, "the first", x.door(0, 2), 1);
        Due.due(28, "another door", x.door(1, 2), 0);
    }

    /** Promise 28: "A DOOR asks TOO MUCH" One that asks nothing does not, whatever it may ask. */
    static void aDoorThatAsksNothingAsksNotTooMuch() {
        PaperPocket x = new PaperPocket();
        Due.read(x, "right 0;");
        Due.due(28, "it may ask nothing", x.door(0, 1), 0);
        Due.due(28, "TOO MUCH", x.door(0, 2), 0);
    }

    /**
     * Promise 28: "Of a DOOR: 0 how many asks, 1 which FIELDS it may ask (bits), 2 whether it asks TOO MUCH (1, 0)."
     * None and eight asks, none and all FIELDS.
     */
    static void theFewestAndTheMostOfADoor() {
        PaperPocket x = new PaperPocket();
        for (int door = 0; door <= 3; door++) {
            Due.due(28, "door(" + door + ", 0)", x.door(door, 0), 0);
            Due.due(28, "door(" + door + ", 1)", x.door(door, 1), 15);
            Due.due(28, "door(" + door + ", 2)", x.door(door, 2), 0);
        }
        Due.read(x, "door 3 " + "field 3 ".repeat(8) + ";right 3 3;");
        Due.due(28, "door(3, 0)", x.door(3, 0), 8);
        Due.due(28, "door(3, 1)", x.door(3, 1), 8);
        Due.due(28, "door(3, 2)", x.door(3, 2), 0);
    }

    /** Promise 28: "2 whether it asks TOO MUCH (1, 0). BAD." */
    static void doorOfNoSuchDoorIsBad() {
        PaperPocket x = new PaperPocket();
        for (int door : NO_DOORS) {
            for (int what = 0; what <= 2; what++) {
                Due.due(28, "door(" + door + ", " + what + ")", x.door(door, what), Due.BAD);
            }
        }
    }

    /** Promise 28: "2 whether it asks TOO MUCH (1, 0). BAD." */
    static void doorOfAnotherWhatIsBad() {
        PaperPocket x = new PaperPocket();
        for (int what : new int[] {-1, 3, MIN, MAX}) {
            Due.due(28, "door(0, " + what + ")", x.door(0, what), Due.BAD);
        }
    }

    // ---- Promise 29

    private static void leastDue(PaperPocket x, int bearer, int door, int day, int set, int weight) {
        Due.due(29, "the set of " + bearer + " at " + door + " on " + day, x.least(bearer, door, day, 0), set);
        Due.due(29, "its weight", x.least(bearer, door, day, 1), weight);
    }

    /**
     * Promise 29: "ENOUGH: a set of PAPERS of one BEARER that HOLD at the DOOR on a day, so that each ask is fitted by
     * one" Another BEARER's PAPERS are not of it.
     */
    static void papersOfAnotherBearerDoNotHelp() {
        PaperPocket x = new PaperPocket();
        Due.tell(x, 0, 5, 0, 0, 9, 0, 0, 0, 0);
        Due.tell(x, 1, 0, 0, 0, 9, 0, 0, 0, 0);
        Due.read(x, "door 0 from 0;door 1 from 0 from 1;");
        leastDue(x, 5, 0, 0, 1, 2);
        leastDue(x, 0, 0, 0, Due.NONE, Due.NONE);
        leastDue(x, 5, 1, 0, Due.NONE, Due.NONE);
    }

    /**
     * Promise 29: "a set of PAPERS of one BEARER that HOLD at the DOOR on a day" Not on the day ahead of the first, nor
     * behind the last.
     */
    static void papersThatDoNotHoldDoNotHelp() {
        PaperPocket x = onePaper();
        Due.read(x, "door 0 field 0;door 1 field 0;");
        leastDue(x, 0, 0, 9, Due.NONE, Due.NONE);
        leastDue(x, 0, 0, 10, 1, 2);
        leastDue(x, 0, 0, 90, 1, 2);
        leastDue(x, 0, 0, 91, Due.NONE, Due.NONE);
        x.revoke(0, 40);
        x.book(1, 40);
        leastDue(x, 0, 0, 40, 1, 2);
        leastDue(x, 0, 1, 39, 1, 2);
        leastDue(x, 0, 1, 40, Due.NONE, Due.NONE);
    }

    /** Promise 29: "'from' by one of that OFFICE, 'field' by any, 'over' by one with so much in that FIELD or more." */
    static void overIsFittedByJustSoMuch() {
        PaperPocket x = new PaperPocket();
        Due.tell(x, 0, 0, 0, 0, 9, 0, 500, 0, 999);
        Due.read(x, "door 0 over 1 499;door 1 over 1 500;door 2 over 1 501;door 3 over 3 999 over 0 0;");
        leastDue(x, 0, 0, 0, 1, 2);
        leastDue(x, 0, 1, 0, 1, 2);
        leastDue(x, 0, 2, 0, Due.NONE, Due.NONE);
        leastDue(x, 0, 3, 0, 1, 3);
    }

    /** Promise 29: "'from' by one of that OFFICE, 'field' by any" */
    static void fromIsFittedByThatOfficeAloneAndFieldByAny() {
        PaperPocket x = new PaperPocket();
        Due.tell(x, 0, 0, 0, 0, 9, 0, 0, 0, 0);
        Due.tell(x, 3, 1, 0, 0, 9, 0, 0, 0, 0);
        Due.read(x, "door 0 from 0;door 1 from 3;door 2 field 0 field 3;");
        leastDue(x, 0, 0, 0, 1, 2);
        leastDue(x, 0, 1, 0, Due.NONE, Due.NONE);
        leastDue(x, 1, 0, 0, Due.NONE, Due.NONE);
        leastDue(x, 1, 1, 0, 2, 2);
        leastDue(x, 0, 2, 0, 1, 3);
        leastDue(x, 1, 2, 0, 2, 3);
    }

    /**
     * Promise 29: "LEAST: the set that is ENOUGH of the least weight: of each PAPER 1, and 1 for each ask it fits" An
     * ask that is fitted twice weighs twice.
     */
    static void anAskThatIsFittedTwiceWeighsTwice() {
        PaperPocket x = new PaperPocket();
        Due.tell(x, 0, 0, 0, 0, 9, 5, 0, 0, 0);
        Due.tell(x, 1, 0, 0, 0, 9, 0, 5, 0, 0);
        Due.tell(x, 2, 0, 0, 0, 9, 5, 5, 0, 0);
        Due.read(x, "door 0 over 0 5 over 1 5;door 1 over 0 5 over 1 5 field 2 field 3 field 2 field 3;");
        leastDue(x, 0, 0, 0, 4, 3);
        leastDue(x, 0, 1, 0, 4, 7);
        x.revoke(2, 0);
        leastDue(x, 0, 0, 0, 3, 4);
        leastDue(x, 0, 1, 0, 3, 12);
    }

    /**
     * Promise 29: "LEAST: the set that is ENOUGH of the least weight: of each PAPER 1, and 1 for each ask it fits" Four
     * PAPERS of an ask each weigh 8.
     */
    static void morePapersWeighMore() {
        PaperPocket x = new PaperPocket();
        for (int office = 0; office < 4; office++) {
            Due.tell(x, office, 0, 0, 0, 9, 0, 0, 0, 0);
        }
        Due.read(x, "door 0 from 0 from 1 from 2 from 3;");
        leastDue(x, 0, 0, 0, 15, 8);
    }

    /** Promise 29: "of several the least number" Of PAPERS that are alike the one told first. */
    static void ofLikePapersTheOneToldFirst() {
        PaperPocket x = new PaperPocket();
        Due.tell(x, 0, 0, 0, 0, 9, 1, 0, 0, 0);
        Due.tell(x, 1, 0, 0, 0, 9, 0, 1, 0, 0);
        Due.tell(x, 2, 0, 0, 0, 9, 0, 1, 1, 0);
        Due.tell(x, 2, 0, 0, 0, 9, 0, 1, 1, 0);
        Due.read(x, "door 0 over 2 1;door 1 over 0 1 over 1 1 over 1 1;");
        leastDue(x, 0, 0, 0, 4, 2);
        leastDue(x, 0, 1, 0, 3, 5);
    }

    /**
     * Promise 29: "of several the least number" Of one weight, three PAPERS of a less number go ahead of two, and two
     * ahead of three.
     */
    static void theLeastNumberCountsNotTheFewestPapers() {
        int[][] fits = {{1, 0, 0, 0}, {0, 1, 0, 0}, {0, 0, 1, 1}, {1, 1, 1, 0}};
        int[][] orders = {{0, 1, 2, 3}, {3, 2, 0, 1}};
        int[] due = {7, 3};
        for (int i = 0; i < 2; i++) {
            PaperPocket x = new PaperPocket();
            for (int p : orders[i]) {
                Due.tell(x, 0, 0, 0, 0, 9, fits[p][0], fits[p][1], fits[p][2], fits[p][3]);
            }
            Due.read(x, "door 0 over 0 1 over 1 1 over 2 1 over 3 1;");
            leastDue(x, 0, 0, 0, due[i], 7);
        }
    }

    /** Promise 29: "(0 where nothing is asked)" Of a BEARER without any PAPER, too. */
    static void nothingIsEnoughWhereNothingIsAsked() {
        PaperPocket x = onePaper();
        leastDue(x, 0, 3, 10, 0, 0);
        leastDue(x, 5, 0, 999, 0, 0);
        Due.read(x, "door 2;");
        leastDue(x, 0, 2, 0, 0, 0);
    }

    /** Promise 29: "NONE: there is none, or it asks TOO MUCH." No PAPER at all, and none that fits. */
    static void noneWhereThereIsNone() {
        PaperPocket x = new PaperPocket();
        Due.read(x, "door 0 field 0;");
        leastDue(x, 0, 0, 0, Due.NONE, Due.NONE);
        Due.tell(x, 1, 0, 0, 0, 9, 0, 0, 0, 0);
        leastDue(x, 0, 0, 0, 1, 2);
        Due.read(x, "door 0 field 0 from 2;");
        leastDue(x, 0, 0, 0, Due.NONE, Due.NONE);
    }

    /** Promise 29: "NONE: there is none, or it asks TOO MUCH." */
    static void noneWhereItAsksTooMuch() {
        PaperPocket x = onePaper();
        Due.read(x, "door 0 from 1 over 2 0;right 0 0 1 3;");
        leastDue(x, 0, 0, 10, Due.NONE, Due.NONE);
        Due.read(x, "right 0 2;");
        leastDue(x, 0, 0, 10, 1, 3);
    }

    /**
     * Promise 29: "LEAST of a BEARER at a DOOR on a day: the set of PAPERS (what = 0; bits), its weight (1); NONE." All
     * twelve PAPERS and eight asks.
     */
    static void theLastPaperAndEightAsks() {
        PaperPocket x = new PaperPocket();
        for (int p = 0; p < 12; p++) {
            Due.tell(x, 0, p == 11 ? 5 : 4, 0, 0, 9, p, 0, 0, 0);
        }
        Due.read(x, "door 0 " + "field 0 ".repeat(8) + ";door 1 " + "over 0 10 ".repeat(8) + ";");
        leastDue(x, 5, 0, 0, 2048, 9);
        leastDue(x, 4, 0, 0, 1, 9);
        leastDue(x, 4, 1, 0, 1024, 9);
        leastDue(x, 5, 1, 0, 2048, 9);
    }

    /** Promise 29: "its weight (1); NONE. BAD." BAD comes ahead of NONE. */
    static void leastOfNoSuchBearerIsBad() {
        PaperPocket x = new PaperPocket();
        Due.read(x, "door 0 field 0;");
        for (int bearer : NO_BEARERS) {
            Due.due(29, "least(" + bearer + ", 0, 0, 0)", x.least(bearer, 0, 0, 0), Due.BAD);
            Due.due(29, "least(" + bearer + ", 1, 0, 1)", x.least(bearer, 1, 0, 1), Due.BAD);
        }
    }

    /** Promise 29: "its weight (1); NONE. BAD." */
    static void leastAtNoSuchDoorIsBad() {
        PaperPocket x = new PaperPocket();
        for (int door : NO_DOORS) {
            Due.due(29, "least(0, " + door + ", 0, 0)", x.least(0, door, 0, 0), Due.BAD);
        }
    }

    /** Promise 29: "Days are 0 to 999." */
    static void leastOnNoSuchDayIsBad() {
        PaperPocket x = new PaperPocket();
        Due.read(x, "door 1 field 0;right 1;");
        for (int day : NO_DAYS) {
            Due.due(29, "least(0, 0, " + day + ", 0)", x.least(0, 0, day, 0), Due.BAD);
            Due.due(29, "BAD ahead of TOO MUCH", x.least(0, 1, day, 0), Due.BAD);
        }
        Due.due(29, "least(0, 0, 0, 0)", x.least(0, 0, 0, 0), 0);
        Due.due(29, "least(0, 0, 999, 0)", x.least(0, 0, 999, 0), 0);
    }

    /** Promise 29: "its weight (1); NONE. BAD." */
    static void leastOfAnotherWhatIsBad() {
        PaperPocket x = new PaperPocket();
        for (int what : new int[] {-1, 2, MIN, MAX}) {
            Due.due(29, "least(0, 0, 0, " + what + ")", x.least(0, 0, 0, what), Due.BAD);
        }
    }

    // ---- Promise 30

    /** Promise 30: "SEEN, as they are told (30 at most): at a DOOR a PAPER was shown by some FIELDS (a set)." */
    static void seenOnesAre30AtMost() {
        PaperPocket x = onePaper();
        for (int i = 1; i <= 30; i++) {
            Due.due(30, "seen", x.seen(i % 4, 0, i % 16), i);
        }
        Due.due(30, "the 31st", x.seen(0, 0, 0), Due.FULL);
        Due.due(38, "count(4)", x.count(4), 30);
    }

    /** Promise 30: "A SEEN one: how many there are. BAD; FULL: 30." BAD comes ahead of FULL. */
    static void the31stIsFullUnlessItIsBad() {
        PaperPocket x = onePaper();
        for (int i = 1; i <= 30; i++) {
            x.seen(0, 0, 0);
        }
        Due.due(30, "as told", x.seen(3, 0, 15), Due.FULL);
        Due.due(30, "no such door", x.seen(4, 0, 15), Due.BAD);
        Due.due(30, "no such paper", x.seen(3, 1, 15), Due.BAD);
        Due.due(30, "no such set", x.seen(3, 0, 16), Due.BAD);
    }

    /** Promise 30: "A SEEN one: how many there are. BAD; FULL: 30." */
    static void seenAtNoSuchDoorIsBad() {
        PaperPocket x = onePaper();
        for (int door : NO_DOORS) {
            Due.due(30, "seen(" + door + ", 0, 0)", x.seen(door, 0, 0), Due.BAD);
        }
        Due.due(38, "count(4)", x.count(4), 0);
        Due.due(30, "seen(0, 0, 0)", x.seen(0, 0, 0), 1);
        Due.due(30, "seen(3, 0, 0)", x.seen(3, 0, 0), 2);
    }

    /** Promise 30: "A SEEN one: how many there are. BAD; FULL: 30." */
    static void seenOfNoSuchPaperIsBad() {
        PaperPocket x = new PaperPocket();
        Due.due(30, "there is none", x.seen(0, 0, 0), Due.BAD);
        Due.tell(x, 0, 0, 0, 0, 9, 0, 0, 0, 0);
        for (int paper : new int[] {-1, 1, 12, MIN, MAX}) {
            Due.due(30, "seen(0, " + paper + ", 0)", x.seen(0, paper, 0), Due.BAD);
        }
    }

    /** Promise 30: "A SEEN one: how many there are. BAD; FULL: 30." Sets are 0 to 15. */
    static void seenOfNoSuchSetIsBad() {
        PaperPocket x = onePaper();
        for (int set : new int[] {-1, 16, MIN, MAX}) {
            Due.due(30, "seen(0, 0, " + set + ")", x.seen(0, 0, set), Due.BAD);
        }
        Due.due(30, "seen(0, 0, 0)", x.seen(0, 0, 0), 1);
        Due.due(30, "seen(0, 0, 15)", x.seen(0, 0, 15), 2);
    }

    // ---- Promise 31

    /**
     * Promise 31: "COULD: the BEARERS who have a PAPER of the same OFFICE with the same values in FIELDS of the set."
     * Of the empty set all of that OFFICE.
     */
    static void theEmptySetCouldBeOfAllOfThatOffice() {
        PaperPocket x = new PaperPocket();
        Due.tell(x, 0, 0, 0, 0, 9, 1, 2, 3, 4);
        Due.tell(x, 0, 5, 4, 7, 7, 9, 9, 9, 9);
        Due.tell(x, 1, 3, 0, 0, 9, 1, 2, 3, 4);
        x.seen(0, 0, 0);
        x.seen(0, 2, 0);
        Due.due(31, "together(1)", x.together(1), 1 | 32);
        Due.due(31, "together(2)", x.together(2), 8);
    }

    /**
     * Promise 31: "COULD: the BEARERS who have a PAPER of the same OFFICE with the same values in FIELDS of the set."
     * Each FIELD of the set counts, and no other.
     */
    static void eachFieldOfTheSetCounts() {
        for (int field = 0; field <= 3; field++) {
            PaperPocket x = new PaperPocket();
            int[] items = {0, 1, 0, 0, 9, 5, 5, 5, 5};
            Due.tell(x, 0, 0, 0, 0, 9, 5, 5, 5, 5);
            items[5 + field] = 6;
            Due.tell(x, items);
            x.seen(0, 0, 1 << field);
            x.seen(0, 0, 15 - (1 << field));
            x.seen(0, 0, 15);
            Due.due(31, "that FIELD alone", x.together(1), 1);
            Due.due(31, "all but that FIELD", x.together(2), 3);
            Due.due(31, "all", x.together(4), 1);
        }
    }

    /** Promise 31: "COULD: the BEARERS who have a PAPER" Whether it holds or not, and one told later, too. */
    static void anyPaperABearerHasCounts() {
        PaperPocket x = onePaper();
        x.seen(0, 0, 15);
        Due.tell(x, 1, 4, 2, 500, 600, 0, 0, 0, 0);
        Due.due(31, "a PAPER told later", x.together(1), 1 | 16);
        x.revoke(0, 0);
        x.revoke(1, 0);
        Due.due(31, "PAPERS taken back", x.together(1), 1 | 16);
    }

    /**
     * Promise 31: "TOGETHER: of some SEEN ones (a set of their numbers, from 0 on, bits) the BEARERS who COULD have
     * made all." By several PAPERS of one, and there may be none.
     */
    static void togetherOfSomeAndOfNone() {
        PaperPocket x = new PaperPocket();
        Due.tell(x, 0, 2, 0, 0, 9, 1, 0, 0, 0);
        Due.tell(x, 0, 2, 0, 0, 9, 2, 0, 0, 0);
        Due.tell(x, 0, 3, 0, 0, 9, 1, 0, 0, 0);
        Due.tell(x, 3, 4, 0, 0, 9, 1, 0, 0, 0);
        x.seen(0, 0, 1);
        x.seen(1, 1, 1);
        x.seen(2, 3, 1);
        int[][] due = {{1, 4 | 8}, {2, 4}, {3, 4}, {4, 16}, {5, 0}, {6, 0}, {7, 0}};
        for (int[] one : due) {
            Due.due(31, "together(" + one[0] + ")", x.together(one[0]), one[1]);
        }
    }

    /** Promise 31: "TOGETHER of SEEN ones (bits): the BEARERS (bits)." The 30th, bit 29, and all of them. */
    static void togetherOfAll30() {
        PaperPocket x = new PaperPocket();
        for (int bearer = 0; bearer <= 5; bearer++) {
            Due.tell(x, 0, bearer, 0, 0, 9, 0, 0, 0, 0);
        }
        Due.tell(x, 0, 1, 0, 0, 9, 8, 0, 0, 0);
        for (int i = 0; i < 29; i++) {
            x.seen(0, 0, 15);
        }
        x.seen(0, 6, 15);
        Due.due(31, "all but the last", x.together((1 << 29) - 1), 63);
        Due.due(31, "the last", x.together(1 << 29), 2);
        Due.due(31, "all", x.together((1 << 30) - 1), 2);
    }

    /** Promise 31: "BAD: 0, or one that is not." */
    static void togetherOfNoneIsBad() {
        PaperPocket x = onePaper();
        Due.due(31, "where there are none", x.together(0), Due.BAD);
        x.seen(0, 0, 0);
        Due.due(31, "where there is one", x.together(0), Due.BAD);
    }

    /** Promise 31: "BAD: 0, or one that is not." */
    static void togetherWithOneThatIsNotIsBad() {
        PaperPocket x = onePaper();
        Due.due(31, "where there are none", x.together(1), Due.BAD);
        x.seen(0, 0, 0);
        for (int which : new int[] {2, 3, 1 << 30, MIN, MIN + 1, -1, MAX}) {
            Due.due(31, "together(" + which + ")", x.together(which), Due.BAD);
        }
        Due.due(31, "together(1)", x.together(1), 1);
        for (int i = 2; i <= 30; i++) {
            x.seen(0, 0, 0);
        }
        for (int which : new int[] {1 << 30, MIN, -1, MAX, (1 << 30) + 1}) {
            Due.due(31, "of 30 together(" + which + ")", x.together(which), Due.BAD);
        }
    }

    // ---- Promise 32

    /** Asks for the least sum and each work of it. */
    private static void queueDue(int[] items, int sum, int... order) {
        PaperPocket x = new PaperPocket();
        Due.fill(x, 0, items);
        Due.due(32, "the least sum", x.queue(0, 0, order.length, -1), sum);
        for (int k = 0; k < order.length; k++) {
            Due.due(32, "work " + k, x.queue(0, 0, order.length, k), order[k]);
        }
    }

    /**
     * Promise 32: "A QUEUE: n works (1 to 7) with when they come and how long they take" One waits for none, whenever
     * it comes.
     */
    static void aQueueOfOne() {
        queueDue(new int[] {0, 1}, 0, 0);
        queueDue(new int[] {999, 99}, 0, 0);
    }

    /**
     * Promise 32: "A QUEUE: n works (1 to 7) with when they come and how long they take" Seven of all sorts, the
     * shortest first.
     */
    static void aQueueOfSeven() {
        queueDue(new int[] {0, 99, 0, 6, 0, 5, 0, 4, 0, 3, 0, 2, 0, 1}, 6 + 2 * 5 + 3 * 4 + 4 * 3 + 5 * 2 + 6, 6, 5, 4, 3, 2, 1, 0);
    }

    /** Promise 32: "one at a time, none ahead of its coming, each as soon as it can behind the one ahead of it in an order" */
    static void noneBeginsAheadOfItsComing() {
        queueDue(new int[] {999, 1, 0, 99}, 0, 1, 0);
        queueDue(new int[] {10, 5, 12, 5}, 3, 0, 1);
        queueDue(new int[] {10, 2, 12, 5}, 0, 0, 1);
        queueDue(new int[] {10, 3, 12, 5}, 1, 0, 1);
    }

    /**
     * Promise 32: "of all orders the least sum of how long each waits from its coming on" One that was there may wait
     * for one that comes.
     */
    static void aLongOneMayWaitForAShortOneThatComes() {
        queueDue(new int[] {0, 99, 1, 1}, 2, 1, 0);
        queueDue(new int[] {0, 2, 1, 1}, 1, 0, 1);
    }

    /**
     * Promise 32: "of all orders the least sum of how long each waits from its coming on" One less is less, and one
     * that comes much later waits not at all.
     */
    static void anOrderThatIsBetterByOneIsTaken() {
        queueDue(new int[] {0, 2, 0, 1, 999, 1}, 1, 1, 0, 2);
        queueDue(new int[] {999, 1, 0, 2, 0, 1}, 1, 2, 1, 0);
    }

    /** Promise 32: "of several the first as a row." */
    static void ofSeveralOrdersTheFirstAsARow() {
        queueDue(new int[] {5, 7, 5, 7, 5, 7}, 21, 0, 1, 2);
        queueDue(new int[] {9, 1, 8, 1, 7, 1, 0, 1}, 0, 3, 2, 1, 0);
        queueDue(new int[] {0, 2, 0, 1, 0, 1, 0, 2, 0, 1, 0, 2, 0, 1}, 1 + 2 + 3 + 4 + 6 + 8, 1, 2, 4, 6, 0, 3, 5);
    }

    /**
     * Promise 32: "A QUEUE of n works, two ITEMS each of a SHEET from i on (when 0 to 999, how long 1 to 99)" The last
     * ones of the longest SHEET.
     */
    static void aQueueAtTheEndOfASheet() {
        PaperPocket x = new PaperPocket();
        x.sheet(0, 1, 60);
        for (int i = 46; i < 60; i += 2) {
            x.set(0, i, 999);
            x.set(0, i + 1, 99);
        }
        Due.due(32, "queue(0, 46, 7, -1)", x.queue(0, 46, 7, -1), 99 * 21);
        Due.due(32, "queue(0, 46, 7, 6)", x.queue(0, 46, 7, 6), 6);
        Due.due(32, "queue(0, 47, 7, 6)", x.queue(0, 47, 7, 6), Due.PLACE);
        Due.due(32, "queue(0, 58, 1, 0)", x.queue(0, 58, 1, 0), 0);
        Due.due(32, "queue(0, 59, 1, 0)", x.queue(0, 59, 1, 0), Due.PLACE);
    }

    private static PaperPocket eightWorks() {
        PaperPocket x = new PaperPocket();
        Due.fill(x, 0, 0, 1, 0, 1, 0, 1, 0, 1, 0, 1, 0, 1, 0, 1, 0, 1);
        return x;
    }

    /** Promise 32: "BAD: SHEET, n, k; NULL; PLACE; then BAD: an ITEM." */
    static void queueOfNoSuchSheetIsBad() {
        PaperPocket x = eightWorks();
        for (int sheet : new int[] {-1, 8, MIN, MAX}) {
            Due.due(32, "queue(" + sheet + ", 0, 1, 0)", x.queue(sheet, 0, 1, 0), Due.BAD);
        }
    }

    /** Promise 32: "BAD: SHEET, n, k; NULL; PLACE; then BAD: an ITEM." BAD comes ahead of NULL. */
    static void queueOfNoSuchNIsBad() {
        PaperPocket x = eightWorks();
        for (int n : new int[] {-1, 0, 8, MIN, MAX}) {
            Due.due(32, "queue(0, 0, " + n + ", -1)", x.queue(0, 0, n, -1), Due.BAD);
            Due.due(32, "queue(1, 0, " + n + ", -1)", x.queue(1, 0, n, -1), Due.BAD);
        }
        Due.due(32, "queue(0, 0, 1, -1)", x.queue(0, 0, 1, -1), 0);
        Due.due(32, "queue(0, 0, 7, -1)", x.queue(0, 0, 7, -1), 21);
    }

    /** Promise 32: "the least sum (k = -1), the k-th work of it (0 to n - 1)." */
    static void queueOfNoSuchKIsBad() {
        PaperPocket x = eightWorks();
        for (int n = 1; n <= 7; n++) {
            for (int k : new int[] {-2, n, MIN, MAX}) {
                Due.due(32, "queue(0, 0, " + n + ", " + k + ")", x.queue(0, 0, n, k), Due.BAD);
            }
            Due.due(32, "queue(0, 0, " + n + ", " + (n - 1) + ")", x.queue(0, 0, n, n - 1), n - 1);
            Due.due(32, "queue(0, 0, " + n + ", 0)", x.queue(0, 0, n, 0), 0);
        }
        Due.due(32, "BAD ahead of NULL", x.queue(1, 0, 2, 2), Due.BAD);
    }

    /** Promise 32: "BAD: SHEET, n, k; NULL; PLACE; then BAD: an ITEM." */
    static void queueOfAMissingSheetIsNull() {
        PaperPocket x = new PaperPocket();
        Due.due(32, "queue(0, 0, 1, 0)", x.queue(0, 0, 1, 0), Due.NULL);
        Due.due(32, "NULL ahead of PLACE", x.queue(0, -1, 1, 0), Due.NULL);
        Due.due(39, "status()", x.status(), 1);
    }

    /** Promise 32: "BAD: SHEET, n, k; NULL; PLACE; then BAD: an ITEM." */
    static void queueBeyondASheetIsOfNoPlace() {
        PaperPocket x = new PaperPocket();
        Due.fill(x, 0, 0, 1, 0, 1);
        Due.due(32, "three of two", x.queue(0, 0, 3, 0), Due.PLACE);
        for (int i : new int[] {-1, 1, MIN, MAX}) {
            Due.due(32, "queue(0, " + i + ", 2, 0)", x.queue(0, i, 2, 0), Due.PLACE);
        }
        Due.due(39, "status()", x.status(), 2);
        x.set(0, 1, 0);
        Due.due(32, "PLACE ahead of an ITEM", x.queue(0, 0, 3, 0), Due.PLACE);
        Due.due(32, "one from 2 on", x.queue(0, 2, 1, 0), 0);
    }

    private static void itemDue(int when, int howLong, int want) {
        PaperPocket x = new PaperPocket();
        Due.fill(x, 0, when, howLong, 0, 1, when, howLong);
        Due.due(32, "the first is " + when + ", " + howLong, x.queue(0, 0, 1, 0), want);
        Due.due(32, "the last is " + when + ", " + howLong, x.queue(0, 2, 2, 0), want);
    }

    /** Promise 32: "then BAD: an ITEM." When: 0 to 999. */
    static void aWorkThatComesOnNoSuchTimeIsBad() {
        for (int when : new int[] {-1, 1000, MIN, MAX}) {
            itemDue(when, 1, Due.BAD);
        }
        itemDue(0, 1, 0);
        itemDue(999, 1, 0);
    }

    /** Promise 32: "then BAD: an ITEM." How long: 1 to 99. */
    static void aWorkOfNoSuchLengthIsBad() {
        for (int howLong : new int[] {-1, 0, 100, MIN, MAX}) {
            itemDue(5, howLong, Due.BAD);
        }
        itemDue(5, 1, 0);
        itemDue(999, 99, 0);
    }

    /** Promise 32: "then BAD: an ITEM." Such a call leaves status(). */
    static void anItemsBadLeavesTheStatus() {
        PaperPocket x = new PaperPocket();
        Due.fill(x, 0, 0, 1, 0, 0);
        x.drop(3);
        Due.due(32, "queue(0, 0, 2, 0)", x.queue(0, 0, 2, 0), Due.BAD);
        Due.due(39, "status()", x.status(), 1);
        Due.due(32, "queue(0, 0, 1, 0)", x.queue(0, 0, 1, 0), 0);
        Due.due(39, "status()", x.status(), 0);
    }
}
