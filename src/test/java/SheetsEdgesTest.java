/** The edges of SHEETS, promises 1 to 5: what each sentence of the document names has a test of its own. */
public final class SheetsEdgesTest {
    private static final int MAX = Integer.MAX_VALUE, MIN = Integer.MIN_VALUE;

    public static void main(String[] args) {
        Due.runAll(SheetsEdgesTest.class);
    }

    // ---- Terms, part 1

    /** Promise 1: "SHEETS 0 .. 7 are missing (at first)" */
    static void sheetsAreMissingAtFirst() {
        PaperPocket x = new PaperPocket();
        for (int sheet = 0; sheet <= 7; sheet++) {
            Due.due(1, "drop(" + sheet + ")", x.drop(sheet), Due.NULL);
        }
        Due.due(38, "count(0)", x.count(0), 0);
    }

    /**
     * Promise 2: "SHEETS 0 .. 7 are missing (at first), or have a LANE (0 bytes, 1 shorts, 2 ints) and 0 to 60 ITEMS, 0
     * at first."
     */
    static void sheets0To7CanBeMade() {
        PaperPocket x = new PaperPocket();
        for (int sheet = 0; sheet <= 7; sheet++) {
            Due.due(2, "sheet(" + sheet + ", 1, 5)", x.sheet(sheet, 1, 5), 5);
            Due.due(38, "count(0)", x.count(0), sheet + 1);
        }
    }

    /** Promise 2: "or have a LANE (0 bytes, 1 shorts, 2 ints)" */
    static void lanesAre0To2() {
        PaperPocket x = new PaperPocket();
        int[] kept = {0, 256, 65792};
        for (int lane = 0; lane <= 2; lane++) {
            Due.due(2, "sheet(0, " + lane + ", 1)", x.sheet(0, lane, 1), 1);
            Due.due(3, "65792 in lane " + lane, x.set(0, 0, 65792), kept[lane]);
        }
    }

    /** Promise 2: "and 0 to 60 ITEMS" The empty SHEET is there, though it has no place. */
    static void aSheetMayHaveNoItems() {
        PaperPocket x = new PaperPocket();
        Due.due(2, "sheet(3, 0, 0)", x.sheet(3, 0, 0), 0);
        Due.due(38, "count(0)", x.count(0), 1);
        Due.due(3, "set(3, 0, 1)", x.set(3, 0, 1), Due.PLACE);
        Due.due(4, "copy of none", x.copy(3, 0, 3, 0, 0), 0);
        Due.due(5, "drop(3)", x.drop(3), 0);
    }

    /** Promise 2: "and 0 to 60 ITEMS" */
    static void aSheetMayHave60Items() {
        PaperPocket x = new PaperPocket();
        Due.due(2, "sheet(3, 2, 60)", x.sheet(3, 2, 60), 60);
        Due.due(3, "set(3, 59, 7)", x.set(3, 59, 7), 7);
        Due.due(3, "set(3, 60, 7)", x.set(3, 60, 7), Due.PLACE);
        Due.due(5, "drop(3)", x.drop(3), 60);
    }

    /** Promise 2: "0 to 60 ITEMS, 0 at first." */
    static void itemsAre0AtFirst() {
        for (int lane = 0; lane <= 2; lane++) {
            PaperPocket x = new PaperPocket();
            x.sheet(0, lane, 60);
            for (int i = 0; i < 60; i += 59) {
                Due.due(2, "item " + i, Due.item(x, lane, 0, i), 0);
            }
        }
    }

    // ---- Promise 1

    /** Promise 1: "All as at first." There is nothing, and no FINDING and no FAULT came yet. */
    static void aNewObjectHasNothing() {
        PaperPocket x = new PaperPocket();
        for (int what = 0; what <= 5; what++) {
            Due.due(1, "count(" + what + ")", x.count(what), 0);
        }
        Due.due(1, "status()", x.status(), 0);
        Due.due(1, "fault()", x.fault(), 0);
        Due.due(1, "trace(0)", x.trace(0), Due.NONE);
    }

    /** Promise 1: "All as at first." A second object knows nothing of what the first was told. */
    static void twoObjectsShareNothing() {
        PaperPocket other = new PaperPocket();
        Due.tell(other, 0, 0, 0, 0, 0, 0, 0, 0, 0);
        other.key(0, 0, 5);
        other.secret(0, 22);
        other.book(0, 9);
        other.day(9);
        other.feed(32, 1);
        other.seen(0, 0, 0);
        other.as(0, 5);
        PaperPocket x = new PaperPocket();
        aNewObjectHasNothing();
        Due.due(1, "keyOn(0, 0)", x.keyOn(0, 0), 100);
        Due.due(1, "secret(0, 0)", x.secret(0, 0), 16);
        Due.due(1, "book(0, 0)", x.book(0, 0), 0);
        Due.due(1, "day(0)", x.day(0), 0);
        Due.due(1, "told(0, 0)", x.told(0, 0), Due.BAD);
        Due.due(1, "the first one still has its own", other.keyOn(0, 0), 5);
    }

    /** Promise 1: "An object is used for at most 512 calls after it has been made; what later calls answer is free." */
    static void the512thCallIsAnswered() {
        PaperPocket x = new PaperPocket();
        Due.due(1, "call 1", x.sheet(0, 2, 60), 60);
        for (int call = 2; call <= 511; call++) {
            Due.due(1, "call " + call, x.set(0, call % 60, call), call);
        }
        Due.due(1, "call 512", x.drop(0), 60);
    }

    // ---- Promise 2

    /** Promise 2: "A SHEET of a LANE with n ITEMS, in place of what is there: n." Its ITEMS are new ones. */
    static void aSheetComesInPlaceOfItsItems() {
        PaperPocket x = new PaperPocket();
        Due.fill(x, 0, 11, 12, 13);
        Due.due(2, "sheet(0, 2, 3)", x.sheet(0, 2, 3), 3);
        for (int i = 0; i < 3; i++) {
            Due.due(2, "item " + i, Due.item(x, 2, 0, i), 0);
        }
        Due.due(38, "it is one and the same SHEET", x.count(0), 2);
    }

    /** Promise 2: "A SHEET of a LANE with n ITEMS, in place of what is there: n." */
    static void aSheetComesInPlaceOfItsSizeAndLane() {
        PaperPocket x = new PaperPocket();
        x.sheet(0, 0, 2);
        Due.due(2, "sheet(0, 2, 4)", x.sheet(0, 2, 4), 4);
        Due.due(3, "set(0, 3, 300)", x.set(0, 3, 300), 300);
        Due.due(2, "sheet(0, 1, 1)", x.sheet(0, 1, 1), 1);
        Due.due(3, "set(0, 0, 65536 and 5)", x.set(0, 0, 65541), 5);
        Due.due(3, "set(0, 1, 5)", x.set(0, 1, 5), Due.PLACE);
    }

    /** Promise 2: "A SHEET of a LANE with n ITEMS, in place of what is there: n." What the longer one had does not come again. */
    static void aLongerSheetBehindAShorterOneIsNew() {
        PaperPocket x = new PaperPocket();
        Due.fill(x, 0, 11, 12, 13);
        x.sheet(0, 2, 1);
        x.sheet(0, 2, 3);
        Due.due(2, "item 2", Due.item(x, 2, 0, 2), 0);
        Due.fill(x, 1, 11, 12, 13);
        x.drop(1);
        x.sheet(1, 2, 3);
        Due.due(2, "item 2 behind a drop", Due.item(x, 2, 1, 2), 0);
    }

    /** Promise 2: "BAD: SHEET, LANE, n above 60; SIZE." */
    static void aSheetOfNoSuchNumberIsBad() {
        PaperPocket x = new PaperPocket();
        for (int sheet : new int[] {-1, 8, MIN, MAX}) {
            Due.due(2, "sheet(" + sheet + ", 0, 1)", x.sheet(sheet, 0, 1), Due.BAD);
        }
        Due.due(38, "count(0)", x.count(0), 0);
    }

    /** Promise 2: "BAD: SHEET, LANE, n above 60; SIZE." */
    static void aSheetOfNoSuchLaneIsBad() {
        PaperPocket x = new PaperPocket();
        for (int lane : new int[] {-1, 3, MIN, MAX}) {
            Due.due(2, "sheet(0, " + lane + ", 1)", x.sheet(0, lane, 1), Due.BAD);
        }
        Due.due(38, "count(0)", x.count(0), 0);
    }

    /** Promise 2: "BAD: SHEET, LANE, n above 60; SIZE." */
    static void nAbove60IsBad() {
        PaperPocket x = new PaperPocket();
        Due.due(2, "sheet(0, 0, 61)", x.sheet(0, 0, 61), Due.BAD);
        Due.due(2, "sheet(0, 0, MAX)", x.sheet(0, 0, MAX), Due.BAD);
        Due.due(38, "count(0)", x.count(0), 0);
        Due.due(2, "sheet(0, 0, 60)", x.sheet(0, 0, 60), 60);
    }

    /** Promise 2: "BAD: SHEET, LANE, n above 60; SIZE." */
    static void nBelow0IsOfNoSize() {
        PaperPocket x = new PaperPocket();
        Due.due(2, "sheet(0, 0, -1)", x.sheet(0, 0, -1), Due.SIZE);
        Due.due(2, "sheet(0, 0, MIN)", x.sheet(0, 0, MIN), Due.SIZE);
        Due.due(38, "count(0)", x.count(0), 0);
        Due.due(39, "status()", x.status(), 4);
        Due.due(2, "sheet(0, 0, 0)", x.sheet(0, 0, 0), 0);
    }

    // ---- Promise 3

    /**
     * Promise 3: "ITEM i becomes v, its lowest bits, as many as the LANE has: what it is then." A byte has eight, the
     * highest is its sign.
     */
    static void bytesKeepEightBits() {
        int[][] due = {
            {0, 0}, {127, 127}, {128, -128}, {255, -1}, {256, 0}, {257, 1},
            {-128, -128}, {-129, 127}, {-256, 0}, {MAX, -1}, {MIN, 0},
        };
        PaperPocket x = new PaperPocket();
        x.sheet(0, 0, 1);
        for (int[] one : due) {
            Due.due(3, "set(0, 0, " + one[0] + ")", x.set(0, 0, one[0]), one[1]);
        }
    }

    /** Promise 3: "ITEM i becomes v, its lowest bits, as many as the LANE has: what it is then." A short has sixteen. */
    static void shortsKeepSixteenBits() {
        int[][] due = {
            {255, 255}, {32767, 32767}, {32768, -32768}, {65535, -1}, {65536, 0}, {65537, 1},
            {-32768, -32768}, {-32769, 32767}, {MAX, -1}, {MIN, 0},
        };
        PaperPocket x = new PaperPocket();
        x.sheet(0, 1, 1);
        for (int[] one : due) {
            Due.due(3, "set(0, 0, " + one[0] + ")", x.set(0, 0, one[0]), one[1]);
        }
    }

    /** Promise 3: "ITEM i becomes v, its lowest bits, as many as the LANE has: what it is then." An int has them all. */
    static void intsKeepAllBits() {
        PaperPocket x = new PaperPocket();
        x.sheet(0, 2, 1);
        for (int v : new int[] {0, -1, 65536, MAX, MIN, Due.BAD}) {
            Due.due(3, "set(0, 0, " + v + ")", x.set(0, 0, v), v);
            Due.due(39, "status()", x.status(), 0);
        }
    }

    /** Promise 3: "ITEM i becomes v, its lowest bits, as many as the LANE has: what it is then." No other ITEM does. */
    static void onlyItemIBecomesV() {
        PaperPocket x = new PaperPocket();
        Due.fill(x, 0, 11, 12, 13);
        Due.fill(x, 1, 21, 22, 23);
        x.set(0, 1, 99);
        int[] due = {11, 99, 13};
        for (int i = 0; i < 3; i++) {
            Due.due(3, "item " + i, Due.item(x, 2, 0, i), due[i]);
            Due.due(3, "item " + i + " of another", Due.item(x, 2, 1, i), 21 + i);
        }
    }

    /**
     * Promise 3: "ITEM i becomes v, its lowest bits, as many as the LANE has: what it is then." The wrapped number is
     * the one that is kept.
     */
    static void whatIsKeptIsWhatWasAnswered() {
        PaperPocket x = new PaperPocket();
        x.sheet(0, 0, 1);
        x.set(0, 0, 256 + 77);
        Due.due(3, "the item", Due.item(x, 0, 0, 0), 77);
        x.sheet(1, 1, 1);
        x.set(1, 0, 65536 + 177);
        Due.due(3, "the item", Due.item(x, 1, 1, 0), 177);
    }

    /** Promise 3: "BAD: SHEET; NULL; PLACE." */
    static void setOfNoSuchSheetIsBad() {
        PaperPocket x = new PaperPocket();
        for (int sheet : new int[] {-1, 8, MIN, MAX}) {
            Due.due(3, "set(" + sheet + ", 0, 1)", x.set(sheet, 0, 1), Due.BAD);
        }
        Due.due(39, "status()", x.status(), 0);
    }

    /** Promise 3: "BAD: SHEET; NULL; PLACE." NULL comes ahead of PLACE. */
    static void setOfAMissingSheetIsNull() {
        PaperPocket x = new PaperPocket();
        Due.due(3, "set(0, 0, 1)", x.set(0, 0, 1), Due.NULL);
        Due.due(3, "set(7, -1, 1)", x.set(7, -1, 1), Due.NULL);
        Due.due(39, "status()", x.status(), 1);
    }

    /** Promise 3: "BAD: SHEET; NULL; PLACE." */
    static void setOfNoSuchItemIsOfNoPlace() {
        PaperPocket x = new PaperPocket();
        x.sheet(0, 2, 3);
        for (int i : new int[] {-1, 3, MIN, MAX}) {
            Due.due(3, "set(0, " + i + ", 1)", x.set(0, i, 1), Due.PLACE);
        }
        Due.due(39, "status()", x.status(), 2);
        Due.due(3, "set(0, 2, 1)", x.set(0, 2, 1), 1);
        Due.due(3, "set(0, 0, 1)", x.set(0, 0, 1), 1);
    }

    // ---- Promise 4

    private static void itemsDue(PaperPocket x, int sheet, int... due) {
        for (int i = 0; i < due.length; i++) {
            Due.due(4, "item " + i + " of " + sheet, Due.item(x, 2, sheet, i), due[i]);
        }
    }

    /** Promise 4: "n ITEMS of a from i on come to b from j on, as they were ahead: n." */
    static void someItemsComeToAnother() {
        PaperPocket x = new PaperPocket();
        Due.fill(x, 0, 1, 2, 3, 4, 5);
        Due.fill(x, 1, 11, 12, 13, 14);
        Due.due(4, "copy(0, 3, 1, 1, 2)", x.copy(0, 3, 1, 1, 2), 2);
        itemsDue(x, 0, 1, 2, 3, 4, 5);
        itemsDue(x, 1, 11, 4, 5, 14);
    }

    /** Promise 4: "n ITEMS of a from i on come to b from j on, as they were ahead: n." */
    static void aSheetIsCopiedUpwardsOverItself() {
        PaperPocket x = new PaperPocket();
        Due.fill(x, 0, 1, 2, 3, 4, 5);
        Due.due(4, "copy(0, 0, 0, 1, 4)", x.copy(0, 0, 0, 1, 4), 4);
        itemsDue(x, 0, 1, 1, 2, 3, 4);
    }

    /** Promise 4: "n ITEMS of a from i on come to b from j on, as they were ahead: n." */
    static void aSheetIsCopiedDownwardsOverItself() {
        PaperPocket x = new PaperPocket();
        Due.fill(x, 0, 1, 2, 3, 4, 5);
        Due.due(4, "copy(0, 1, 0, 0, 4)", x.copy(0, 1, 0, 0, 4), 4);
        itemsDue(x, 0, 2, 3, 4, 5, 5);
    }

    /** Promise 4: "n ITEMS of a from i on come to b from j on, as they were ahead: n." None may come, at an end, too. */
    static void noneIsCopied() {
        PaperPocket x = new PaperPocket();
        Due.fill(x, 0, 1, 2, 3);
        Due.fill(x, 1, 11, 12);
        Due.due(4, "copy(0, 3, 1, 2, 0)", x.copy(0, 3, 1, 2, 0), 0);
        Due.due(4, "copy(0, 0, 1, 0, 0)", x.copy(0, 0, 1, 0, 0), 0);
        itemsDue(x, 1, 11, 12);
    }

    /** Promise 4: "n ITEMS of a from i on come to b from j on, as they were ahead: n." */
    static void all60AreCopied() {
        PaperPocket x = new PaperPocket();
        x.sheet(0, 2, 60);
        x.sheet(1, 2, 60);
        x.set(0, 0, 3);
        x.set(0, 59, 4);
        Due.due(4, "copy(0, 0, 1, 0, 60)", x.copy(0, 0, 1, 0, 60), 60);
        Due.due(4, "item 0", Due.item(x, 2, 1, 0), 3);
        Due.due(4, "item 59", Due.item(x, 2, 1, 59), 4);
    }

    /** Promise 4: "BAD: SHEETS; NULL; STORE; PLACE (i, j, n below 0, or beyond an end)." */
    static void copyOfNoSuchSheetIsBad() {
        PaperPocket x = new PaperPocket();
        x.sheet(0, 0, 1);
        for (int sheet : new int[] {-1, 8, MIN, MAX}) {
            Due.due(4, "from " + sheet, x.copy(sheet, 0, 0, 0, 1), Due.BAD);
            Due.due(4, "to " + sheet, x.copy(0, 0, sheet, 0, 1), Due.BAD);
            Due.due(4, "from a missing one to " + sheet, x.copy(1, 0, sheet, 0, 1), Due.BAD);
        }
    }

    /** Promise 4: "BAD: SHEETS; NULL; STORE; PLACE (i, j, n below 0, or beyond an end)." */
    static void copyOfAMissingSheetIsNull() {
        PaperPocket x = new PaperPocket();
        x.sheet(0, 0, 1);
        Due.due(4, "from a missing one", x.copy(1, 0, 0, 0, 1), Due.NULL);
        Due.due(39, "status()", x.status(), 1);
        Due.due(4, "to a missing one", x.copy(0, 0, 1, 0, 1), Due.NULL);
        Due.due(4, "both are one missing one", x.copy(1, 0, 1, 0, 0), Due.NULL);
        Due.due(4, "NULL ahead of PLACE", x.copy(0, -1, 1, -1, -1), Due.NULL);
    }

    /** Promise 4: "BAD: SHEETS; NULL; STORE; PLACE (i, j, n below 0, or beyond an end)." */
    static void copyAcrossLanesIsStore() {
        PaperPocket x = new PaperPocket();
        for (int lane = 0; lane <= 2; lane++) {
            x.sheet(lane, lane, 2);
        }
        for (int a = 0; a <= 2; a++) {
            for (int b = 0; b <= 2; b++) {
                Due.due(4, "copy(" + a + ", 0, " + b + ", 0, 1)", x.copy(a, 0, b, 0, 1), a == b ? 1 : Due.STORE);
                Due.due(39, "status()", x.status(), a == b ? 0 : 5);
            }
        }
        Due.due(4, "none of them", x.copy(0, 0, 1, 0, 0), Due.STORE);
        Due.due(4, "STORE ahead of PLACE", x.copy(0, -1, 1, 3, 9), Due.STORE);
    }

    private static PaperPocket threeAndTwo() {
        PaperPocket x = new PaperPocket();
        Due.fill(x, 0, 1, 2, 3);
        Due.fill(x, 1, 11, 12);
        return x;
    }

    /** Promise 4: "PLACE (i, j, n below 0, or beyond an end)." */
    static void copyFromBelow0IsOfNoPlace() {
        PaperPocket x = threeAndTwo();
        Due.due(4, "i = -1", x.copy(0, -1, 1, 0, 1), Due.PLACE);
        Due.due(39, "status()", x.status(), 2);
        Due.due(4, "i = MIN", x.copy(0, MIN, 1, 0, 0), Due.PLACE);
        itemsDue(x, 1, 11, 12);
    }

    /** Promise 4: "PLACE (i, j, n below 0, or beyond an end)." */
    static void copyToBelow0IsOfNoPlace() {
        PaperPocket x = threeAndTwo();
        Due.due(4, "j = -1", x.copy(0, 0, 1, -1, 1), Due.PLACE);
        Due.due(4, "j = MIN", x.copy(0, 0, 1, MIN, 0), Due.PLACE);
        itemsDue(x, 1, 11, 12);
    }

    /** Promise 4: "PLACE (i, j, n below 0, or beyond an end)." */
    static void copyOfFewerThanNoneIsOfNoPlace() {
        PaperPocket x = threeAndTwo();
        Due.due(4, "n = -1", x.copy(0, 1, 1, 1, -1), Due.PLACE);
        Due.due(4, "n = MIN", x.copy(0, 0, 1, 0, MIN), Due.PLACE);
    }

    /** Promise 4: "PLACE (i, j, n below 0, or beyond an end)." */
    static void copyBeyondTheEndOfAIsOfNoPlace() {
        PaperPocket x = threeAndTwo();
        Due.due(4, "two from 2 on", x.copy(0, 2, 1, 0, 2), Due.PLACE);
        Due.due(4, "none from 4 on", x.copy(0, 4, 1, 0, 0), Due.PLACE);
        Due.due(4, "one from MAX on", x.copy(0, MAX, 1, 0, 1), Due.PLACE);
        Due.due(4, "one from 2 on", x.copy(0, 2, 1, 0, 1), 1);
        itemsDue(x, 1, 3, 12);
    }

    /** Promise 4: "PLACE (i, j, n below 0, or beyond an end)." */
    static void copyBeyondTheEndOfBIsOfNoPlace() {
        PaperPocket x = threeAndTwo();
        Due.due(4, "two to 1 on", x.copy(0, 0, 1, 1, 2), Due.PLACE);
        Due.due(4, "none to 3 on", x.copy(0, 0, 1, 3, 0), Due.PLACE);
        Due.due(4, "one to MAX on", x.copy(0, 0, 1, MAX, 1), Due.PLACE);
        itemsDue(x, 1, 11, 12);
        Due.due(4, "one to 1 on", x.copy(0, 0, 1, 1, 1), 1);
        itemsDue(x, 1, 11, 1);
    }

    /** Promise 4: "PLACE (i, j, n below 0, or beyond an end)." An end that wraps around an int is beyond it, too. */
    static void copyBeyondAllNumbersIsOfNoPlace() {
        PaperPocket x = threeAndTwo();
        Due.due(4, "n = MAX", x.copy(0, 1, 1, 1, MAX), Due.PLACE);
        Due.due(4, "i and n = MAX", x.copy(0, MAX, 1, MAX, MAX), Due.PLACE);
        Due.due(4, "all MIN", x.copy(0, MIN, 1, MIN, MIN), Due.PLACE);
    }

    // ---- Promise 5

    /** Promise 5: "A SHEET is missing from now on: how many ITEMS it had." */
    static void aDroppedSheetIsMissing() {
        PaperPocket x = new PaperPocket();
        x.sheet(0, 0, 1);
        x.sheet(7, 1, 60);
        Due.due(5, "drop(7)", x.drop(7), 60);
        Due.due(38, "count(0)", x.count(0), 1);
        Due.due(3, "set(7, 0, 1)", x.set(7, 0, 1), Due.NULL);
        Due.due(2, "it can be made again", x.sheet(7, 0, 2), 2);
        Due.due(5, "drop(0)", x.drop(0), 1);
    }

    /** Promise 5: "A SHEET is missing from now on: how many ITEMS it had. BAD; NULL." */
    static void dropOfNoSuchSheetIsBad() {
        PaperPocket x = new PaperPocket();
        for (int sheet : new int[] {-1, 8, MIN, MAX}) {
            Due.due(5, "drop(" + sheet + ")", x.drop(sheet), Due.BAD);
        }
        Due.due(39, "status()", x.status(), 0);
    }

    /** Promise 5: "A SHEET is missing from now on: how many ITEMS it had. BAD; NULL." */
    static void dropOfAMissingSheetIsNull() {
        PaperPocket x = new PaperPocket();
        Due.due(5, "drop(2)", x.drop(2), Due.NULL);
        x.sheet(2, 0, 0);
        Due.due(5, "drop(2)", x.drop(2), 0);
        Due.due(39, "status()", x.status(), 0);
        Due.due(5, "drop(2) again", x.drop(2), Due.NULL);
        Due.due(39, "status()", x.status(), 1);
    }
}
