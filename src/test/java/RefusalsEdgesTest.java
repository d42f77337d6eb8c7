/** Which refusal is answered, by which number, and that it changes nothing: the sentences ahead of the parts of 'Terms'. */
public final class RefusalsEdgesTest {
    public static void main(String[] args) {
        Due.runAll(RefusalsEdgesTest.class);
    }

    /** Paper 0 of office 0, bearer 0, the days 0 to 9, by way of sheet 7. */
    private static PaperPocket onePaper() {
        PaperPocket x = new PaperPocket();
        Due.tell(x, 0, 0, 0, 0, 9, 1, 2, 3, 4);
        return x;
    }

    // ---- their order

    /** Promise 1: "Numbers go from 0 on." The first of each is 0, and there is none below. */
    static void numbersGoFrom0On() {
        PaperPocket x = new PaperPocket();
        Due.due(2, "SHEET 0", x.sheet(0, 0, 9), 9);
        Due.due(3, "ITEM 0", x.set(0, 0, 1), 1);
        Due.due(9, "PAPER 0", x.paper(0, 0), 0);
        Due.due(10, "OFFICE", x.told(0, 8), 1);
        Due.due(7, "OFFICE 0", x.keyOn(0, 0), 100);
        Due.due(16, "BEARER 0", x.secret(0, 0), 16);
        Due.due(22, "DOOR 0", x.book(0, 0), 0);
        Due.due(10, "PAPER -1", x.told(-1, 0), Due.BAD);
        Due.due(2, "SHEET -1", x.sheet(-1, 0, 9), Due.BAD);
    }

    /**
     * Promise 8: "Refusals are answers, the first of these that fits: BAD (a number is not as told; there is no such
     * thing), STATE (as told)"
     */
    static void badComesAheadOfStateOfAClosing() {
        PaperPocket x = new PaperPocket();
        x.close(0, 0, 5);
        x.close(0, 1, 5);
        for (int what = 0; what <= 1; what++) {
            Due.due(8, "as told", x.close(0, what, 5), Due.STATE);
            Due.due(8, "a day 1000", x.close(0, what, 1000), Due.BAD);
        }
    }

    /**
     * Promise 23: "Refusals are answers, the first of these that fits: BAD (a number is not as told; there is no such
     * thing), STATE (as told)"
     */
    static void badComesAheadOfStateOfATakingBack() {
        PaperPocket x = onePaper();
        x.revoke(0, 5);
        Due.due(23, "as told", x.revoke(0, 5), Due.STATE);
        Due.due(23, "a day -1", x.revoke(0, -1), Due.BAD);
        Due.due(23, "a day 1000", x.revoke(0, 1000), Due.BAD);
    }

    /**
     * Promise 14: "Refusals are answers, the first of these that fits: BAD (a number is not as told; there is no such
     * thing), STATE (as told)"
     */
    static void badComesAheadOfStateOfABound() {
        PaperPocket x = onePaper();
        Due.due(14, "as told", x.over(0, 0, 2), Due.STATE);
        Due.due(14, "a bound 1000", x.over(0, 0, 1000), Due.BAD);
        Due.due(14, "a FIELD 4", x.over(0, 4, 999), Due.BAD);
        Due.due(14, "a PAPER 1", x.over(1, 0, 999), Due.BAD);
    }

    /** Promise 6: "BAD (a number is not as told; there is no such thing), STATE (as told), FULL (as told)" */
    static void badComesAheadOfFullOfKeys() {
        PaperPocket x = new PaperPocket();
        for (int i = 0; i < 6; i++) {
            x.key(0, 5, 5);
        }
        Due.due(6, "as told", x.key(0, 5, 5), Due.FULL);
        Due.due(6, "a day 1000", x.key(0, 1000, 5), Due.BAD);
        Due.due(6, "a KEY 0", x.key(0, 5, 0), Due.BAD);
        Due.due(6, "a KEY 65521", x.key(0, 5, 65521), Due.BAD);
    }

    /** Promise 25: "BAD (a number is not as told; there is no such thing), STATE (as told), FULL (as told)" */
    static void badComesAheadOfFullOfTheTape() {
        PaperPocket x = new PaperPocket();
        Due.feed(x, " ".repeat(300));
        Due.due(25, "as told", x.feed(32, 1), Due.FULL);
        Due.due(25, "no bytes", x.feed(32, 0), Due.BAD);
        Due.due(25, "nine bytes", x.feed(32, 9), Due.BAD);
    }

    /** Promise 9: "FULL (as told), then FINDINGS, of several the first in time" */
    static void fullComesAheadOfFindings() {
        PaperPocket x = new PaperPocket();
        x.sheet(0, 0, 9);
        for (int p = 0; p < 12; p++) {
            x.paper(0, 0);
        }
        Due.due(9, "a missing SHEET", x.paper(1, 0), Due.FULL);
        Due.due(9, "no such place", x.paper(0, 1), Due.FULL);
        Due.due(39, "status()", x.status(), 0);
    }

    /** Promise 4: "then FINDINGS, of several the first in time" NULL, STORE, PLACE as promise 4 has them. */
    static void ofSeveralFindingsTheFirst() {
        PaperPocket x = new PaperPocket();
        x.sheet(0, 0, 1);
        Due.due(4, "NULL and PLACE", x.copy(0, 9, 1, 9, 9), Due.NULL);
        x.sheet(1, 1, 1);
        Due.due(4, "STORE and PLACE", x.copy(0, 9, 1, 9, 9), Due.STORE);
        x.sheet(1, 0, 1);
        Due.due(4, "PLACE", x.copy(0, 9, 1, 9, 9), Due.PLACE);
        Due.due(39, "status()", x.status(), 2);
    }

    /**
     * Promise 12: "Refusals are answers, the first of these that fits: BAD" Ahead of FINDINGS, but for an ITEM, which
     * is looked at behind them.
     */
    static void badComesAheadOfFindings() {
        PaperPocket x = onePaper();
        Due.due(2, "a LANE 3 and SIZE", x.sheet(0, 3, -1), Due.BAD);
        Due.due(4, "a SHEET 8 and NULL", x.copy(0, 0, 8, 0, 1), Due.BAD);
        Due.due(12, "a set 16 and NULL", x.check(0, 16, 0, 0, 4), Due.BAD);
        Due.due(21, "k = 5 and NULL", x.friends(0, 0, 1, 5), Due.BAD);
        Due.due(32, "k = 1 and NULL", x.queue(0, 0, 1, 1), Due.BAD);
        Due.due(35, "a KIND 6", x.as(0, 6), Due.BAD);
        Due.fill(x, 0, 1000, 1000);
        Due.due(12, "an ITEM and PLACE", x.check(0, 15, 0, 0, 4), Due.PLACE);
    }

    // ---- the numbers of findings

    /** Promise 39: "-1000010 less 1 NULL (a SHEET that is missing)" */
    static void nullIsNumber1() {
        PaperPocket x = new PaperPocket();
        Due.due(5, "drop(0)", x.drop(0), -1000011);
        Due.due(39, "status()", x.status(), 1);
    }

    /** Promise 39: "2 PLACE (no such place of a SHEET)" */
    static void placeIsNumber2() {
        PaperPocket x = new PaperPocket();
        x.sheet(0, 0, 0);
        Due.due(3, "set(0, 0, 0)", x.set(0, 0, 0), -1000012);
        Due.due(39, "status()", x.status(), 2);
    }

    /** Promise 39: "3 KIND (a PAPER that is not that)" */
    static void kindIsNumber3() {
        PaperPocket x = onePaper();
        Due.due(35, "as(0, 1)", x.as(0, 1), -1000013);
        Due.due(39, "status()", x.status(), 3);
    }

    /** Promise 39: "4 SIZE (fewer than none)" */
    static void sizeIsNumber4() {
        PaperPocket x = new PaperPocket();
        Due.due(2, "sheet(0, 0, -1)", x.sheet(0, 0, -1), -1000014);
        Due.due(39, "status()", x.status(), 4);
    }

    /** Promise 39: "5 STORE (SHEETS of two LANES)." */
    static void storeIsNumber5() {
        PaperPocket x = new PaperPocket();
        x.sheet(0, 0, 1);
        x.sheet(1, 1, 1);
        Due.due(4, "copy(0, 0, 1, 0, 1)", x.copy(0, 0, 1, 0, 1), -1000015);
        Due.due(39, "status()", x.status(), 5);
    }

    // ---- what is refused changes nothing

    private static void refused(String call, int got) {
        Due.due(39, call + " is refused", got <= Due.BAD && got >= Due.STORE ? 1 : 0, 1);
    }

    /** Promise 2: "What is refused, or found, changes nothing but status()." A SHEET keeps its LANE, its size and its ITEMS. */
    static void aRefusedSheetStaysAsItWas() {
        PaperPocket x = new PaperPocket();
        Due.fill(x, 0, 11, 12);
        refused("SIZE", x.sheet(0, 0, -1));
        refused("n above 60", x.sheet(0, 0, 61));
        refused("LANE", x.sheet(0, 3, 1));
        Due.due(2, "its ITEMS", Due.item(x, 2, 0, 0), 11);
        Due.due(2, "its LANE", x.set(0, 1, 70000), 70000);
        Due.due(2, "its size", x.drop(0), 2);
    }

    /**
     * Promise 4: "What is refused, or found, changes nothing but status()." No ITEM is set or copied, not even those
     * that could be.
     */
    static void aRefusedSetOrCopyChangesNoItem() {
        PaperPocket x = new PaperPocket();
        Due.fill(x, 0, 11, 12, 13);
        Due.fill(x, 1, 21, 22);
        x.sheet(2, 1, 2);
        refused("set", x.set(0, 3, 99));
        refused("copy beyond b", x.copy(0, 0, 1, 0, 3));
        refused("copy beyond a", x.copy(1, 1, 0, 0, 2));
        refused("copy across lanes", x.copy(2, 0, 1, 0, 2));
        for (int i = 0; i < 3; i++) {
            Due.due(4, "item " + i + " of 0", Due.item(x, 2, 0, i), 11 + i);
        }
        for (int i = 0; i < 2; i++) {
            Due.due(4, "item " + i + " of 1", Due.item(x, 2, 1, i), 21 + i);
        }
    }

    /** Promise 6: "What is refused, or found, changes nothing but status()." */
    static void aRefusedKeyChangesNoKey() {
        PaperPocket x = new PaperPocket();
        for (int i = 0; i < 6; i++) {
            x.key(0, 5, 50 + i);
        }
        refused("FULL", x.key(0, 5, 99));
        refused("a day", x.key(1, 1000, 99));
        refused("a KEY", x.key(1, 5, 65521));
        Due.due(7, "keyOn(0, 5)", x.keyOn(0, 5), 55);
        Due.due(7, "keyOn(1, 999)", x.keyOn(1, 999), 101);
        Due.due(38, "count(3)", x.count(3), 6);
    }

    /** Promise 8: "What is refused, or found, changes nothing but status()." The day told first stays. */
    static void aRefusedClosingChangesNoDay() {
        PaperPocket x = onePaper();
        x.book(0, 999);
        x.close(0, 0, 1);
        x.close(0, 1, 9);
        refused("BURNT again", x.close(0, 0, 0));
        refused("ENDS again", x.close(0, 1, 0));
        Due.due(24, "holds(0, 0, 8)", x.holds(0, 0, 8), 0);
        Due.due(24, "holds(0, 0, 9)", x.holds(0, 0, 9), 4);
    }

    /**
     * Promise 9: "What is refused, or found, changes nothing but status()." The next PAPER has the number that the
     * refused one would have had.
     */
    static void aRefusedPaperTakesNoNumber() {
        PaperPocket x = onePaper();
        x.set(7, 8, 1000);
        refused("an ITEM", x.paper(7, 0));
        refused("PLACE", x.paper(7, 1));
        refused("NULL", x.paper(6, 0));
        Due.due(38, "count(1)", x.count(1), 1);
        Due.due(10, "told(1, 0)", x.told(1, 0), Due.BAD);
        x.set(7, 8, 999);
        Due.due(9, "paper(7, 0)", x.paper(7, 0), 1);
    }

    /** Promise 16: "What is refused, or found, changes nothing but status()." */
    static void aRefusedSecretChangesNone() {
        PaperPocket x = new PaperPocket();
        refused("x = 23", x.secret(0, 23));
        refused("BEARER 6", x.secret(6, 1));
        for (int bearer = 0; bearer <= 5; bearer++) {
            Due.due(17, "s of " + bearer, x.answer(bearer, 0, 1, 1), bearer + 2);
        }
    }

    /** Promise 22: "What is refused, or found, changes nothing but status()." */
    static void aRefusedBookOrDayChangesNone() {
        PaperPocket x = new PaperPocket();
        x.book(0, 3);
        x.day(4);
        refused("book", x.book(0, 1000));
        refused("book", x.book(4, 5));
        refused("day", x.day(-1));
        Due.due(22, "book(0, 0)", x.book(0, 0), 3);
        Due.due(33, "day(0)", x.day(0), 4);
    }

    /** Promise 23: "What is refused, or found, changes nothing but status()." The day told first stays. */
    static void aRefusedTakingBackChangesNoDay() {
        PaperPocket x = onePaper();
        x.revoke(0, 5);
        refused("STATE", x.revoke(0, 0));
        refused("BAD", x.revoke(0, 1000));
        Due.due(34, "kind(0)", x.kind(0), 0);
        x.day(5);
        Due.due(34, "kind(0)", x.kind(0), 5);
    }

    /** Promise 25: "What is refused, or found, changes nothing but status()." */
    static void aRefusedFeedingLeavesTheTape() {
        PaperPocket x = new PaperPocket();
        Due.feed(x, "door 0;" + " ".repeat(290));
        refused("FULL", x.feed(0x78787878L, 4));
        refused("BAD", x.feed(0x78, 9));
        Due.due(38, "count(5)", x.count(5), 297);
        Due.due(26, "doors()", x.doors(), 1);
    }

    /** Promise 30: "What is refused, or found, changes nothing but status()." */
    static void aRefusedSeenOneIsNotOneOfThem() {
        PaperPocket x = onePaper();
        x.seen(0, 0, 0);
        refused("DOOR", x.seen(4, 0, 0));
        refused("PAPER", x.seen(0, 1, 0));
        refused("set", x.seen(0, 0, 16));
        Due.due(38, "count(4)", x.count(4), 1);
        Due.due(31, "together(2)", x.together(2), Due.BAD);
    }

    /** Promise 36: "What is refused, or found, changes nothing but status()." THE TRACE stays. */
    static void aRefusedAskLeavesTheTrace() {
        PaperPocket x = onePaper();
        x.ask(0, 1);
        refused("PAPER", x.ask(1, 0));
        refused("what", x.ask(0, 2));
        Due.due(37, "trace(0)", x.trace(0), 20);
    }

    /** Promise 21: "What is refused, or found, changes nothing but status()." Calls that only look leave the SHEET, too. */
    static void aCallThatLooksLeavesTheSheet() {
        PaperPocket x = onePaper();
        Due.fill(x, 0, 1, 5, 1, 5);
        refused("friends", x.friends(0, 0, 2, 0));
        refused("queue", x.queue(0, 0, 3, 0));
        refused("check", x.check(0, 15, 0, 1, 4));
        int[] due = {1, 5, 1, 5};
        for (int i = 0; i < 4; i++) {
            Due.due(21, "item " + i, Due.item(x, 2, 0, i), due[i]);
        }
        Due.due(32, "queue(0, 0, 2, -1)", x.queue(0, 0, 2, -1), 5);
    }
}
