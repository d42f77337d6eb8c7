import java.math.BigInteger;

/** The edges of OFFICES and PAPERS, promises 6 to 15: what each sentence of the document names has a test of its own. */
public final class OfficesEdgesTest {
    private static final int MAX = Integer.MAX_VALUE, MIN = Integer.MIN_VALUE;
    private static final int[] NO_DAYS = {-1, 1000, MIN, MAX};
    private static final int[] NO_OFFICES = {-1, 4, MIN, MAX};
    private static final int[] NO_FIELDS = {-1, 4, MIN, MAX};

    public static void main(String[] args) {
        Due.runAll(OfficesEdgesTest.class);
    }

    /** A paper of office 0, bearer 0, days 0 to 999, with four fields. */
    private static int tellFields(PaperPocket x, int a, int b, int c, int d) {
        return Due.tell(x, 0, 0, 0, 0, 999, a, b, c, d);
    }

    /** Sums without any wrap-around of the machine's numbers. */
    private static int bigJoin(int a, int b) {
        BigInteger big = BigInteger.valueOf(a);
        return big.multiply(big).add(BigInteger.valueOf(3L * b + 5)).mod(BigInteger.valueOf(65521)).intValue();
    }

    // ---- Terms, part 1: offices

    /** Promise 6: "OFFICES 0 .. 3" */
    static void keysAreToldForOffices0To3() {
        PaperPocket x = new PaperPocket();
        for (int office = 0; office <= 3; office++) {
            Due.due(6, "key(" + office + ", 1, 9)", x.key(office, 1, 9), 1);
        }
        Due.due(38, "count(3)", x.count(3), 4);
    }

    /** Promise 7: "each has a KEY from day 0 on (100 and its number)" */
    static void theFirstKeysLastFromDay0On() {
        PaperPocket x = new PaperPocket();
        for (int office = 0; office <= 3; office++) {
            Due.due(7, "keyOn(" + office + ", 0)", x.keyOn(office, 0), 100 + office);
            Due.due(7, "keyOn(" + office + ", 999)", x.keyOn(office, 999), 100 + office);
        }
        Due.due(38, "they were not told", x.count(3), 0);
    }

    /** Promise 7: "others from later days on, as they are told" A KEY is not one of the day ahead of its day. */
    static void aKeyIsOfItsDayAndLater() {
        PaperPocket x = new PaperPocket();
        x.key(2, 10, 77);
        Due.due(7, "the day ahead", x.keyOn(2, 9), 102);
        Due.due(7, "the day", x.keyOn(2, 10), 77);
        Due.due(7, "the last day", x.keyOn(2, 999), 77);
        Due.due(7, "another office", x.keyOn(1, 10), 101);
    }

    /**
     * Promise 7: "others from later days on, as they are told" Told later for an earlier day, it ends where the later
     * one begins.
     */
    static void keysAreToldInAnyOrder() {
        PaperPocket x = new PaperPocket();
        x.key(0, 20, 220);
        x.key(0, 10, 210);
        int[][] due = {{9, 100}, {10, 210}, {19, 210}, {20, 220}, {999, 220}};
        for (int[] one : due) {
            Due.due(7, "keyOn(0, " + one[0] + ")", x.keyOn(0, one[0]), one[1]);
        }
    }

    /** Promise 7: "from a day on: of one day the one told last" */
    static void ofOneDayTheKeyToldLast() {
        PaperPocket x = new PaperPocket();
        x.key(1, 10, 5);
        x.key(1, 10, 6);
        Due.due(7, "of two", x.keyOn(1, 10), 6);
        x.key(1, 20, 8);
        x.key(1, 10, 4);
        Due.due(7, "the less of three", x.keyOn(1, 19), 4);
        Due.due(7, "the later day's", x.keyOn(1, 20), 8);
    }

    /** Promise 7: "from a day on: of one day the one told last" A KEY told for day 0 or 999 is of that day. */
    static void keysOfTheFirstAndTheLastDay() {
        PaperPocket x = new PaperPocket();
        x.key(3, 0, 9);
        x.key(3, 999, 11);
        Due.due(7, "keyOn(3, 0)", x.keyOn(3, 0), 9);
        Due.due(7, "keyOn(3, 998)", x.keyOn(3, 998), 9);
        Due.due(7, "keyOn(3, 999)", x.keyOn(3, 999), 11);
    }

    /** Promise 6: "6 at most an OFFICE" Each OFFICE has its own six. */
    static void eachOfficeHasSixKeys() {
        PaperPocket x = new PaperPocket();
        for (int i = 1; i <= 6; i++) {
            for (int office = 0; office <= 3; office++) {
                Due.due(6, "key " + i + " of " + office, x.key(office, i, i), i);
            }
        }
        for (int office = 0; office <= 3; office++) {
            Due.due(6, "a 7th of " + office, x.key(office, 9, 9), Due.FULL);
            Due.due(7, "the 6th stays", x.keyOn(office, 999), 6);
        }
        Due.due(38, "count(3)", x.count(3), 24);
    }

    /** Promise 8: "it may be BURNT from a day on (once), may END on a day (once)." Once each, and each OFFICE. */
    static void eachOfficeIsBurntOnceAndEndsOnce() {
        PaperPocket x = new PaperPocket();
        for (int office = 0; office <= 3; office++) {
            Due.due(8, "BURNT", x.close(office, 0, 3), 1);
            Due.due(8, "BURNT again", x.close(office, 0, 4), Due.STATE);
            Due.due(8, "ENDS", x.close(office, 1, 3), 1);
            Due.due(8, "ENDS again", x.close(office, 1, 3), Due.STATE);
        }
    }

    // ---- Promises 6 to 8

    /** Promise 6: "An OFFICE has a KEY (1 to 65520) from a day on: how many such were told for it." */
    static void keysAre1To65520() {
        PaperPocket x = new PaperPocket();
        Due.due(6, "key(0, 1, 1)", x.key(0, 1, 1), 1);
        Due.due(7, "keyOn(0, 1)", x.keyOn(0, 1), 1);
        Due.due(6, "key(0, 2, 65520)", x.key(0, 2, 65520), 2);
        Due.due(7, "keyOn(0, 2)", x.keyOn(0, 2), 65520);
    }

    /** Promise 6: "An OFFICE has a KEY (1 to 65520) from a day on: how many such were told for it. BAD; FULL: 6." */
    static void otherKeysAreBad() {
        PaperPocket x = new PaperPocket();
        for (int v : new int[] {0, 65521, -1, MIN, MAX}) {
            Due.due(6, "key(0, 1, " + v + ")", x.key(0, 1, v), Due.BAD);
        }
        Due.due(38, "count(3)", x.count(3), 0);
        Due.due(7, "keyOn(0, 1)", x.keyOn(0, 1), 100);
    }

    /** Promise 6: "An OFFICE has a KEY (1 to 65520) from a day on: how many such were told for it. BAD; FULL: 6." */
    static void keyOfNoSuchOfficeIsBad() {
        PaperPocket x = new PaperPocket();
        for (int office : NO_OFFICES) {
            Due.due(6, "key(" + office + ", 1, 1)", x.key(office, 1, 1), Due.BAD);
        }
        Due.due(38, "count(3)", x.count(3), 0);
    }

    /** Promise 6: "Days are 0 to 999." */
    static void keyOfNoSuchDayIsBad() {
        PaperPocket x = new PaperPocket();
        for (int day : NO_DAYS) {
            Due.due(6, "key(0, " + day + ", 1)", x.key(0, day, 1), Due.BAD);
        }
        Due.due(6, "key(0, 0, 1)", x.key(0, 0, 1), 1);
        Due.due(6, "key(0, 999, 1)", x.key(0, 999, 1), 2);
    }

    /** Promise 6: "BAD; FULL: 6." The 6th is taken, the 7th is not, for whatever day. */
    static void theSeventhKeyIsFull() {
        PaperPocket x = new PaperPocket();
        for (int i = 1; i <= 6; i++) {
            Due.due(6, "key " + i, x.key(1, 5, 10 + i), i);
        }
        Due.due(6, "the 7th", x.key(1, 5, 50), Due.FULL);
        Due.due(6, "the 7th, of another day", x.key(1, 0, 50), Due.FULL);
        Due.due(7, "keyOn(1, 5)", x.keyOn(1, 5), 16);
        Due.due(7, "keyOn(1, 4)", x.keyOn(1, 4), 101);
        Due.due(38, "count(3)", x.count(3), 6);
    }

    /** Promise 7: "The KEY of an OFFICE on a day. BAD." */
    static void keyOnOfNoSuchOfficeIsBad() {
        PaperPocket x = new PaperPocket();
        for (int office : NO_OFFICES) {
            Due.due(7, "keyOn(" + office + ", 0)", x.keyOn(office, 0), Due.BAD);
        }
    }

    /** Promise 7: "Days are 0 to 999." */
    static void keyOnOfNoSuchDayIsBad() {
        PaperPocket x = new PaperPocket();
        for (int day : NO_DAYS) {
            Due.due(7, "keyOn(0, " + day + ")", x.keyOn(0, day), Due.BAD);
        }
    }

    /** Promise 8: "An OFFICE is BURNT (what = 0), ENDS (1) from a day on: 1." The one is not the other. */
    static void burntIsWhat0AndEndsIsWhat1() {
        PaperPocket x = new PaperPocket();
        Due.tell(x, 0, 0, 0, 0, 9, 0, 0, 0, 0);
        Due.tell(x, 1, 0, 0, 0, 9, 0, 0, 0, 0);
        Due.due(8, "close(0, 0, 0)", x.close(0, 0, 0), 1);
        Due.due(8, "close(1, 1, 0)", x.close(1, 1, 0), 1);
        Due.due(24, "of the burnt office", x.holds(0, 0, 0), 5);
        Due.due(24, "of the ended office", x.holds(1, 0, 0), 4);
    }

    /** Promise 8: "An OFFICE is BURNT (what = 0), ENDS (1) from a day on: 1. BAD; STATE: it was told." */
    static void closeOfNoSuchOfficeIsBad() {
        PaperPocket x = new PaperPocket();
        for (int office : NO_OFFICES) {
            Due.due(8, "close(" + office + ", 0, 0)", x.close(office, 0, 0), Due.BAD);
            Due.due(8, "close(" + office + ", 1, 0)", x.close(office, 1, 0), Due.BAD);
        }
    }

    /** Promise 8: "An OFFICE is BURNT (what = 0), ENDS (1) from a day on: 1. BAD; STATE: it was told." */
    static void closeByAnotherWhatIsBad() {
        PaperPocket x = new PaperPocket();
        for (int what : new int[] {-1, 2, MIN, MAX}) {
            Due.due(8, "close(0, " + what + ", 0)", x.close(0, what, 0), Due.BAD);
        }
        Due.due(8, "neither is told", x.close(0, 0, 0), 1);
        Due.due(8, "neither is told", x.close(0, 1, 0), 1);
    }

    /** Promise 8: "Days are 0 to 999." */
    static void closeOfNoSuchDayIsBad() {
        PaperPocket x = new PaperPocket();
        for (int day : NO_DAYS) {
            Due.due(8, "close(0, 0, " + day + ")", x.close(0, 0, day), Due.BAD);
            Due.due(8, "close(0, 1, " + day + ")", x.close(0, 1, day), Due.BAD);
        }
        Due.due(8, "close(0, 0, 0)", x.close(0, 0, 0), 1);
        Due.due(8, "close(0, 1, 999)", x.close(0, 1, 999), 1);
    }

    /** Promise 8: "BAD; STATE: it was told." Told for the last day, it was told, too; the first day stays. */
    static void whatWasToldIsNotToldAnew() {
        PaperPocket x = new PaperPocket();
        Due.due(8, "close(2, 0, 999)", x.close(2, 0, 999), 1);
        Due.due(8, "close(2, 0, 0)", x.close(2, 0, 0), Due.STATE);
        Due.due(8, "close(2, 1, 999)", x.close(2, 1, 999), 1);
        Due.due(8, "close(2, 1, 0)", x.close(2, 1, 0), Due.STATE);
        Due.tell(x, 2, 0, 0, 0, 9, 0, 0, 0, 0);
        Due.due(24, "from the later day on", x.holds(0, 0, 0), 0);
    }

    // ---- Terms, part 1: papers

    /** Promise 9: "PAPERS 0 .. 11 (12 at most), as they are told" */
    static void papersAre0To11() {
        PaperPocket x = new PaperPocket();
        for (int p = 0; p < 12; p++) {
            Due.due(10, "none yet", x.told(p, 0), Due.BAD);
            Due.due(9, "paper " + p, tellFields(x, p, 0, 0, 0), p);
            Due.due(10, "it is the one just told", x.told(p, 0), p);
        }
        Due.due(9, "a 13th", x.paper(7, 0), Due.FULL);
        Due.due(10, "told(12, 0)", x.told(12, 0), Due.BAD);
        Due.due(38, "count(1)", x.count(1), 12);
    }

    /** The answer of paper(), item i of nine zeros being v. */
    private static int paperWith(int i, int v) {
        PaperPocket x = new PaperPocket();
        int[] items = {0, 0, 0, 0, 999, 0, 0, 0, 0};
        items[i] = v;
        return Due.tell(x, items);
    }

    private static void itemDue(int i, int most) {
        Due.due(9, "item " + i + " is 0", paperWith(i, 0), 0);
        Due.due(9, "item " + i + " is " + most, paperWith(i, most), 0);
        Due.due(9, "item " + i + " is -1", paperWith(i, -1), Due.BAD);
        Due.due(9, "item " + i + " is one more", paperWith(i, most + 1), Due.BAD);
        Due.due(9, "item " + i + " is MIN", paperWith(i, MIN), Due.BAD);
        Due.due(9, "item " + i + " is MAX", paperWith(i, MAX), Due.BAD);
    }

    /** Promise 9: "as they are told: an OFFICE, a BEARER (0 to 5), a SORT" The OFFICE is one of 0 to 3. */
    static void aPapersOfficeIs0To3() {
        itemDue(0, 3);
    }

    /** Promise 9: "a BEARER (0 to 5)" */
    static void aPapersBearerIs0To5() {
        itemDue(1, 5);
    }

    /** Promise 9: "a SORT (0 paper, 1 stamp, 2 short, 3 grade, 4 lent)" */
    static void aPapersSortIs0To4() {
        itemDue(2, 4);
    }

    /** Promise 9: "the first and the last day" Days are 0 to 999. */
    static void aPapersFirstDayIs0To999() {
        itemDue(3, 999);
    }

    /** Promise 9: "the first and the last day" Days are 0 to 999. */
    static void aPapersLastDayIs0To999() {
        itemDue(4, 999);
    }

    /** Promise 9: "the first and the last day" One that lies ahead of the first is not the last; both may be one day. */
    static void aPapersLastDayIsNotAheadOfItsFirst() {
        PaperPocket x = new PaperPocket();
        Due.due(9, "1, 0", Due.tell(x, 0, 0, 0, 1, 0, 0, 0, 0, 0), Due.BAD);
        Due.due(9, "999, 998", Due.tell(x, 0, 0, 0, 999, 998, 0, 0, 0, 0), Due.BAD);
        Due.due(38, "count(1)", x.count(1), 0);
        Due.due(9, "0, 0", Due.tell(x, 0, 0, 0, 0, 0, 0, 0, 0, 0), 0);
        Due.due(9, "999, 999", Due.tell(x, 0, 0, 0, 999, 999, 0, 0, 0, 0), 1);
        Due.due(9, "998, 999", Due.tell(x, 0, 0, 0, 998, 999, 0, 0, 0, 0), 2);
    }

    /** Promise 9: "four FIELDS (0 to 999)." */
    static void aPapersFieldsAre0To999() {
        for (int i = 5; i <= 8; i++) {
            itemDue(i, 999);
        }
    }

    /**
     * Promise 10: "LEAF of a FIELD i of PAPER p: (31 times its value and 7 p and i) modulo M." From 0 of the first to
     * 31049 of the last.
     */
    static void theLeastAndTheGreatestLeaf() {
        PaperPocket x = new PaperPocket();
        for (int p = 0; p < 12; p++) {
            tellFields(x, 0, 0, 999, 999);
        }
        Due.due(11, "FIELD 0 of PAPER 0, value 0", x.show(0, 2, 0), 0);
        Due.due(11, "FIELD 3 of PAPER 11, value 999", x.show(11, 4, 2), 31049);
        Due.due(11, "FIELD 1 of PAPER 11, value 0", x.show(11, 1, 1), 78);
    }

    /** Promise 10: "SUMS: JOIN of a, b: (a a and 3 b and 5) modulo M." a a goes far beyond M, and beyond what an int holds. */
    static void joinIsModuloM() {
        PaperPocket x = new PaperPocket();
        boolean beyond = false;
        for (int p = 0; p < 12; p++) {
            tellFields(x, 999 - p, 80 * p, 999, 77 * p);
            int left = bigJoin(Due.leaf(p, 0, 999 - p), Due.leaf(p, 1, 80 * p));
            int right = bigJoin(Due.leaf(p, 2, 999), Due.leaf(p, 3, 77 * p));
            Due.due(10, "LEFT", x.told(p, 4), left);
            Due.due(10, "RIGHT", x.told(p, 5), right);
            Due.due(10, "ROOT", x.told(p, 6), bigJoin(left, right));
            beyond |= left > 46340;
        }
        Due.due(10, "one of the squares is beyond an int", beyond ? 1 : 0, 1);
    }

    /**
     * Promise 10: "LEFT: JOIN of LEAVES 0, 1; RIGHT: of 2, 3; ROOT: JOIN of LEFT, RIGHT." All FIELDS 0: 8, 18, 123, as
     * it can be counted by hand.
     */
    static void sumsOfTheLeastFields() {
        PaperPocket x = new PaperPocket();
        tellFields(x, 0, 0, 0, 0);
        Due.due(10, "LEFT", x.told(0, 4), 0 + 3 + 5);
        Due.due(10, "RIGHT", x.told(0, 5), 4 + 9 + 5);
        Due.due(10, "ROOT", x.told(0, 6), 64 + 54 + 5);
        Due.due(10, "SEAL", x.told(0, 7), 123 * 100 + 1);
    }

    /** Promise 10: "M is 65521." A JOIN that comes to M, or to a number of times M, is 0: such a ROOT has the SEAL 1. */
    static void aRootMayBe0() {
        int left = Due.join(Due.leaf(0, 0, 5), Due.leaf(0, 1, 6));
        for (int tried = 0; tried < 1000000; tried++) {
            int c = tried / 1000;
            int d = tried % 1000;
            if (bigJoin(left, bigJoin(Due.leaf(0, 2, c), Due.leaf(0, 3, d))) == 0) {
                PaperPocket x = new PaperPocket();
                tellFields(x, 5, 6, c, d);
                Due.due(10, "ROOT", x.told(0, 6), 0);
                Due.due(10, "SEAL", x.told(0, 7), 1);
                Due.fill(x, 0, 5, 6, c, d);
                Due.due(12, "its SHOWING is taken", x.check(0, 15, 0, 0, 4), 1);
                x.set(0, 0, 4);
                Due.due(12, "another is not", x.check(0, 15, 0, 0, 4), 0);
                return;
            }
        }
        Due.due(10, "FIELDS with such a ROOT are found", 0, 1);
    }

    /**
     * Promise 10: "SEAL: (ROOT times the KEY of its OFFICE on its first day, and 1) modulo M." The greatest KEY makes
     * it 1 less ROOT, and M.
     */
    static void theSealOfTheGreatestAndOfTheLeastKey() {
        PaperPocket x = new PaperPocket();
        x.key(0, 0, 65520);
        x.key(1, 0, 1);
        boolean beyond = false;
        for (int p = 0; p < 12; p += 2) {
            tellFields(x, 999, 80 * p, 999, 999);
            Due.tell(x, 1, 0, 0, 0, 0, 9, 9, 80 * p, 9);
            int root = x.told(p, 6);
            Due.due(10, "SEAL by 65520", x.told(p, 7), Math.floorMod(1 - root, 65521));
            Due.due(10, "SEAL by 1", x.told(p + 1, 7), (x.told(p + 1, 6) + 1) % 65521);
            beyond |= 65520L * root > MAX;
        }
        Due.due(10, "one of them goes beyond an int", beyond ? 1 : 0, 1);
    }

    /** Promise 10: "SEAL: (ROOT times the KEY of its OFFICE on its first day, and 1) modulo M." 65520 and 1 is 0 again. */
    static void aSealMayBe0() {
        PaperPocket x = new PaperPocket();
        tellFields(x, 1, 2, 3, 4);
        BigInteger m = BigInteger.valueOf(65521);
        int key = BigInteger.valueOf(x.told(0, 6)).modInverse(m).negate().mod(m).intValue();
        x.key(0, 0, key);
        Due.due(10, "SEAL", x.told(0, 7), 0);
    }

    /**
     * Promise 10: "SEAL: (ROOT times the KEY of its OFFICE on its first day, and 1) modulo M." Not the KEY of the day
     * ahead, nor that of a later day.
     */
    static void theSealIsByTheKeyOfTheFirstDay() {
        PaperPocket x = new PaperPocket();
        x.key(2, 20, 3);
        x.key(2, 21, 5);
        for (int first = 19; first <= 21; first++) {
            int p = Due.tell(x, 2, 0, 0, first, 30, 1, 2, 3, 4);
            int key = first == 19 ? 102 : first == 20 ? 3 : 5;
            Due.due(10, "SEAL from day " + first, x.told(p, 7), Due.seal(x.told(p, 6), key));
        }
    }

    // ---- Promise 9

    /** Promise 9: "A PAPER, nine ITEMS of a SHEET from i on (OFFICE, BEARER, SORT, first day, last day, FIELDS): its number." */
    static void aPaperIsTheLastNineItemsOfASheet() {
        PaperPocket x = new PaperPocket();
        x.sheet(0, 1, 60);
        int[] items = {3, 5, 4, 7, 8, 11, 12, 13, 14};
        for (int i = 0; i < 9; i++) {
            x.set(0, 51 + i, items[i]);
        }
        Due.due(9, "paper(0, 52)", x.paper(0, 52), Due.PLACE);
        Due.due(9, "paper(0, 51)", x.paper(0, 51), 0);
        int[][] due = {{8, 3}, {9, 5}, {10, 7}, {11, 8}, {0, 11}, {1, 12}, {2, 13}, {3, 14}};
        for (int[] one : due) {
            Due.due(10, "told(0, " + one[0] + ")", x.told(0, one[0]), one[1]);
        }
        Due.due(34, "kind(0)", x.kind(0), 4);
    }

    /** Promise 9: "A PAPER, nine ITEMS of a SHEET from i on" What becomes of the SHEET later is no matter of the PAPER's. */
    static void aPaperStaysAsItWasTold() {
        PaperPocket x = new PaperPocket();
        Due.tell(x, 3, 5, 4, 7, 8, 11, 12, 13, 14);
        int root = x.told(0, 6);
        x.set(7, 5, 500);
        Due.due(10, "FIELD 0", x.told(0, 0), 11);
        x.sheet(7, 0, 9);
        Due.due(10, "OFFICE", x.told(0, 8), 3);
        x.drop(7);
        Due.due(10, "ROOT", x.told(0, 6), root);
    }

    /** Promise 9: "BAD: SHEET; FULL: 12; NULL; PLACE; then BAD: an ITEM." */
    static void paperOfNoSuchSheetIsBad() {
        PaperPocket x = new PaperPocket();
        for (int sheet : new int[] {-1, 8, MIN, MAX}) {
            Due.due(9, "paper(" + sheet + ", 0)", x.paper(sheet, 0), Due.BAD);
        }
    }

    /** Promise 9: "BAD: SHEET; FULL: 12; NULL; PLACE; then BAD: an ITEM." */
    static void theThirteenthPaperIsFull() {
        PaperPocket x = new PaperPocket();
        x.sheet(0, 0, 9);
        for (int p = 0; p < 12; p++) {
            Due.due(9, "paper", x.paper(0, 0), p);
        }
        Due.due(9, "the 13th", x.paper(0, 0), Due.FULL);
        Due.due(9, "FULL ahead of NULL", x.paper(1, 0), Due.FULL);
        Due.due(9, "FULL ahead of PLACE", x.paper(0, 1), Due.FULL);
        x.set(0, 0, -1);
        Due.due(9, "FULL ahead of an ITEM", x.paper(0, 0), Due.FULL);
        Due.due(9, "BAD ahead of FULL", x.paper(8, 0), Due.BAD);
        Due.due(38, "count(1)", x.count(1), 12);
    }

    /** Promise 9: "BAD: SHEET; FULL: 12; NULL; PLACE; then BAD: an ITEM." */
    static void paperOfAMissingSheetIsNull() {
        PaperPocket x = new PaperPocket();
        Due.due(9, "paper(0, 0)", x.paper(0, 0), Due.NULL);
        Due.due(9, "NULL ahead of PLACE", x.paper(0, -1), Due.NULL);
        Due.due(39, "status()", x.status(), 1);
    }

    /** Promise 9: "BAD: SHEET; FULL: 12; NULL; PLACE; then BAD: an ITEM." */
    static void paperOfFewerThanNineItemsIsOfNoPlace() {
        PaperPocket x = new PaperPocket();
        x.sheet(0, 0, 8);
        Due.due(9, "of eight", x.paper(0, 0), Due.PLACE);
        x.sheet(0, 0, 9);
        for (int i : new int[] {-1, 1, 9, MIN, MAX}) {
            Due.due(9, "paper(0, " + i + ")", x.paper(0, i), Due.PLACE);
        }
        Due.due(39, "status()", x.status(), 2);
        x.set(0, 1, -1);
        Due.due(9, "PLACE ahead of an ITEM", x.paper(0, 1), Due.PLACE);
        x.set(0, 1, 0);
        Due.due(9, "of nine", x.paper(0, 0), 0);
    }

    /** Promise 9: "BAD: SHEET; FULL: 12; NULL; PLACE; then BAD: an ITEM." Such a call leaves status(). */
    static void anItemsBadLeavesTheStatus() {
        PaperPocket x = new PaperPocket();
        Due.fill(x, 0, 4, 0, 0, 0, 0, 0, 0, 0, 0);
        x.paper(1, 0);
        Due.due(9, "an OFFICE 4", x.paper(0, 0), Due.BAD);
        Due.due(39, "status()", x.status(), 1);
        Due.due(38, "count(1)", x.count(1), 0);
    }

    /** Promise 9: "then BAD: an ITEM." In a SHEET of bytes 999 is -25, and 128 is -128. */
    static void itemsAreLookedAtAsTheirLaneHasThem() {
        PaperPocket x = new PaperPocket();
        x.sheet(0, 0, 9);
        x.set(0, 8, 999);
        Due.due(9, "999 in bytes", x.paper(0, 0), Due.BAD);
        x.set(0, 8, 128);
        Due.due(9, "128 in bytes", x.paper(0, 0), Due.BAD);
        x.set(0, 8, 127);
        Due.due(9, "127 in bytes", x.paper(0, 0), 0);
        x.sheet(0, 1, 9);
        x.set(0, 8, 65536 + 999);
        Due.due(9, "65536 and 999 in shorts", x.paper(0, 0), 1);
        Due.due(10, "FIELD 3", x.told(1, 3), 999);
    }

    // ---- Promise 10

    /**
     * Promise 10: "Of a PAPER: 0 to 3 FIELDS, 4 LEFT, 5 RIGHT, 6 ROOT, 7 SEAL, 8 OFFICE, 9 BEARER, 10 first day, 11
     * last day, 12 to 15 ENDS of CHAINS."
     */
    static void whatIsToldOfAPaper() {
        PaperPocket x = new PaperPocket();
        Due.tell(x, 2, 4, 1, 30, 60, 0, 1, 2, 3);
        int left = bigJoin(0, 32);
        int right = bigJoin(64, 96);
        int root = bigJoin(left, right);
        int[] due = {0, 1, 2, 3, left, right, root, Due.seal(root, 102), 2, 4, 30, 60,
            Due.steps(1, 1), Due.steps(18, 2), Due.steps(35, 3), Due.steps(52, 4)};
        for (int what = 0; what <= 15; what++) {
            Due.due(10, "told(0, " + what + ")", x.told(0, what), due[what]);
        }
    }

    /** Promise 10: "12 to 15 ENDS of CHAINS. BAD." */
    static void toldOfNoSuchPaperIsBad() {
        PaperPocket x = new PaperPocket();
        Due.due(10, "there is none", x.told(0, 0), Due.BAD);
        tellFields(x, 0, 0, 0, 0);
        for (int paper : new int[] {-1, 1, 12, MIN, MAX}) {
            Due.due(10, "told(" + paper + ", 0)", x.told(paper, 0), Due.BAD);
        }
    }

    /** Promise 10: "12 to 15 ENDS of CHAINS. BAD." */
    static void toldOfAnotherWhatIsBad() {
        PaperPocket x = new PaperPocket();
        tellFields(x, 0, 0, 0, 0);
        for (int what : new int[] {-1, 16, MIN, MAX}) {
            Due.due(10, "told(0, " + what + ")", x.told(0, what), Due.BAD);
        }
    }

    // ---- Promise 11

    private static void showingDue(int set, int... due) {
        PaperPocket x = new PaperPocket();
        tellFields(x, 10, 20, 30, 40);
        Due.due(11, "how many of set " + set, x.show(0, set, -1), due.length);
        for (int i = 0; i < due.length; i++) {
            Due.due(11, "show(0, " + set + ", " + i + ")", x.show(0, set, i), due[i]);
        }
        Due.due(11, "no more of set " + set, x.show(0, set, due.length), Due.NONE);
    }

    // Of a paper 0 with the fields 10, 20, 30, 40 the leaves are 310, 621, 932, 1243.
    private static final int LEFT = (310 * 310 + 3 * 621 + 5) % 65521;
    private static final int RIGHT = (932 * 932 + 3 * 1243 + 5) % 65521;

    /**
     * Promise 11: "A SHOWING of some FIELDS (a set, bits) of a PAPER: for each half (FIELDS 0, 1; 2, 3):" Of no FIELD
     * it is the two halves.
     */
    static void theEmptyShowing() {
        showingDue(0, LEFT, RIGHT);
    }

    /** Promise 11: "if one or both of it are of the set: for each FIELD of the half its value (of the set), its LEAF (not)" */
    static void aShowingOfOneFieldOfAHalf() {
        showingDue(1, 10, 621, RIGHT);
        showingDue(2, 310, 20, RIGHT);
        showingDue(4, LEFT, 30, 1243);
        showingDue(8, LEFT, 932, 40);
        showingDue(9, 10, 621, 932, 40);
    }

    /** Promise 11: "else the half's LEFT or RIGHT." */
    static void aShowingOfAWholeHalf() {
        showingDue(3, 10, 20, RIGHT);
        showingDue(12, LEFT, 30, 40);
    }

    /** Promise 11: "TOLD: these numbers, one behind the other." All FIELDS are four numbers, and so are FIELDS of both halves. */
    static void aShowingOfAllFields() {
        showingDue(15, 10, 20, 30, 40);
        showingDue(14, 310, 20, 30, 40);
        showingDue(7, 10, 20, 30, 1243);
    }

    /** Promise 11: "TOLD of a SHOWING: how many numbers (i = -1), the i-th; NONE: not so many." */
    static void aShowingHasNoMoreNumbers() {
        PaperPocket x = new PaperPocket();
        tellFields(x, 1, 2, 3, 4);
        int[][] due = {{0, 2}, {1, 3}, {15, 4}};
        for (int[] one : due) {
            Due.due(11, "the last one is there", x.show(0, one[0], one[1] - 1) == Due.NONE ? 1 : 0, 0);
            Due.due(11, "one beyond", x.show(0, one[0], one[1]), Due.NONE);
            Due.due(11, "i = 4", x.show(0, one[0], 4), Due.NONE);
            Due.due(11, "i = MAX", x.show(0, one[0], MAX), Due.NONE);
        }
    }

    /** Promise 11: "BAD: PAPER, set (0 to 15), i below -1." */
    static void showOfNoSuchPaperIsBad() {
        PaperPocket x = new PaperPocket();
        Due.due(11, "there is none", x.show(0, 0, -1), Due.BAD);
        tellFields(x, 1, 2, 3, 4);
        for (int paper : new int[] {-1, 1, 12, MIN, MAX}) {
            Due.due(11, "show(" + paper + ", 0, 0)", x.show(paper, 0, 0), Due.BAD);
        }
    }

    /** Promise 11: "BAD: PAPER, set (0 to 15), i below -1." */
    static void showOfNoSuchSetIsBad() {
        PaperPocket x = new PaperPocket();
        tellFields(x, 1, 2, 3, 4);
        for (int set : new int[] {-1, 16, MIN, MAX}) {
            Due.due(11, "show(0, " + set + ", 0)", x.show(0, set, 0), Due.BAD);
            Due.due(11, "BAD ahead of NONE", x.show(0, set, 9), Due.BAD);
        }
    }

    /** Promise 11: "BAD: PAPER, set (0 to 15), i below -1." */
    static void showOfIBelowMinus1IsBad() {
        PaperPocket x = new PaperPocket();
        tellFields(x, 1, 2, 3, 4);
        Due.due(11, "show(0, 0, -2)", x.show(0, 0, -2), Due.BAD);
        Due.due(11, "show(0, 15, MIN)", x.show(0, 15, MIN), Due.BAD);
        Due.due(11, "show(0, 15, -1)", x.show(0, 15, -1), 4);
    }

    // ---- Promise 12

    /** Promise 12: "CHECK of such numbers for a PAPER's number, set, SEAL and KEY: the ROOT made of them gives that SEAL." */
    static void aShowingIsTakenAndAnotherNumberIsNot() {
        for (int set = 0; set <= 15; set++) {
            PaperPocket x = new PaperPocket();
            tellFields(x, 0, 0, 0, 0);
            tellFields(x, 0, 998, 500, 0);
            int n = x.show(1, set, -1);
            x.sheet(0, 2, n);
            for (int i = 0; i < n; i++) {
                x.set(0, i, x.show(1, set, i));
            }
            Due.due(12, "set " + set, x.check(1, set, 0, 0, n), 1);
            Due.due(12, "set " + set + " for another PAPER", x.check(0, set, 0, 0, n), 0);
            for (int i = 0; i < n; i++) {
                x.set(0, i, x.show(1, set, i) + 1);
                Due.due(12, "set " + set + ", number " + i + " one more", x.check(1, set, 0, 0, n), 0);
                x.set(0, i, x.show(1, set, i));
            }
        }
    }

    /** Promise 12: "the ROOT made of them gives that SEAL." One of 0 is made of 0 and 43679, and is a ROOT like others. */
    static void aRootOf0MayBeMade() {
        PaperPocket x = new PaperPocket();
        tellFields(x, 1, 2, 3, 4);
        Due.fill(x, 0, 0, 43679);
        Due.due(12, "the sum is two times M", 0 * 0 + 3 * 43679 + 5, 2 * Due.M);
        Due.due(12, "check(0, 0, 0, 0, 2)", x.check(0, 0, 0, 0, 2), 0);
        Due.due(39, "status()", x.status(), 0);
    }

    /**
     * Promise 12: "CHECK of n ITEMS of a SHEET from i on for a PAPER and a set, with its SEAL and KEY: 1, 0." The last
     * ITEMS of the longest SHEET.
     */
    static void theLastItemsOfASheetAreChecked() {
        PaperPocket x = new PaperPocket();
        tellFields(x, 1, 2, 3, 999);
        x.sheet(0, 1, 60);
        int[] items = {1, 2, 3, 999};
        for (int i = 0; i < 4; i++) {
            x.set(0, 56 + i, items[i]);
        }
        Due.due(12, "check(0, 15, 0, 56, 4)", x.check(0, 15, 0, 56, 4), 1);
        Due.due(12, "check(0, 15, 0, 55, 4)", x.check(0, 15, 0, 55, 4), 0);
        Due.due(12, "check(0, 15, 0, 57, 4)", x.check(0, 15, 0, 57, 4), Due.PLACE);
    }

    /** Promise 12: "with its SEAL and KEY: 1, 0." A KEY told later for its first day is the one of its SEAL and of the CHECK. */
    static void aCheckGoesByTheKeyOfTheFirstDay() {
        PaperPocket x = new PaperPocket();
        Due.tell(x, 1, 0, 0, 20, 30, 1, 2, 3, 4);
        Due.fill(x, 0, 1, 2, 3, 4);
        x.key(1, 20, 65520);
        Due.due(12, "check", x.check(0, 15, 0, 0, 4), 1);
        x.set(0, 0, 0);
        Due.due(12, "check of another value", x.check(0, 15, 0, 0, 4), 0);
    }

    private static PaperPocket onePaperAndFourItems() {
        PaperPocket x = new PaperPocket();
        tellFields(x, 0, 0, 0, 0);
        Due.fill(x, 0, 0, 0, 0, 0);
        return x;
    }

    /** Promise 12: "BAD: PAPER, set, SHEET, n is not how many that SHOWING has; NULL; PLACE; then BAD" */
    static void checkOfNoSuchPaperIsBad() {
        PaperPocket x = onePaperAndFourItems();
        for (int paper : new int[] {-1, 1, 12, MIN, MAX}) {
            Due.due(12, "check(" + paper + ", 15, 0, 0, 4)", x.check(paper, 15, 0, 0, 4), Due.BAD);
        }
        Due.due(12, "check(0, 15, 0, 0, 4)", x.check(0, 15, 0, 0, 4), 1);
    }

    /** Promise 12: "BAD: PAPER, set, SHEET, n is not how many that SHOWING has; NULL; PLACE; then BAD" */
    static void checkOfNoSuchSetIsBad() {
        PaperPocket x = onePaperAndFourItems();
        for (int set : new int[] {-1, 16, 31, MIN, MAX}) {
            for (int n = 2; n <= 4; n++) {
                Due.due(12, "check(0, " + set + ", 0, 0, " + n + ")", x.check(0, set, 0, 0, n), Due.BAD);
            }
        }
    }

    /** Promise 12: "BAD: PAPER, set, SHEET, n is not how many that SHOWING has; NULL; PLACE; then BAD" */
    static void checkOfNoSuchSheetIsBad() {
        PaperPocket x = onePaperAndFourItems();
        for (int sheet : new int[] {-1, 8, MIN, MAX}) {
            Due.due(12, "check(0, 15, " + sheet + ", 0, 4)", x.check(0, 15, sheet, 0, 4), Due.BAD);
        }
    }

    /** Promise 12: "BAD: PAPER, set, SHEET, n is not how many that SHOWING has; NULL; PLACE; then BAD" */
    static void checkOfAnotherNIsBad() {
        PaperPocket x = onePaperAndFourItems();
        for (int set = 0; set <= 15; set++) {
            int many = ((set & 3) == 0 ? 1 : 2) + (set < 4 ? 1 : 2);
            for (int n : new int[] {-1, 0, 1, 2, 3, 4, 5, MIN, MAX}) {
                if (n != many) {
                    Due.due(12, "set " + set + ", n = " + n, x.check(0, set, 0, 0, n), Due.BAD);
                    Due.due(12, "BAD ahead of NULL", x.check(0, set, 1, 0, n), Due.BAD);
                }
            }
        }
    }

    /** Promise 12: "BAD: PAPER, set, SHEET, n is not how many that SHOWING has; NULL; PLACE; then BAD" */
    static void checkOfAMissingSheetIsNull() {
        PaperPocket x = onePaperAndFourItems();
        Due.due(12, "check(0, 15, 1, 0, 4)", x.check(0, 15, 1, 0, 4), Due.NULL);
        Due.due(39, "status()", x.status(), 1);
        Due.due(12, "NULL ahead of PLACE", x.check(0, 15, 1, -1, 4), Due.NULL);
    }

    /** Promise 12: "BAD: PAPER, set, SHEET, n is not how many that SHOWING has; NULL; PLACE; then BAD" */
    static void checkBeyondASheetIsOfNoPlace() {
        PaperPocket x = onePaperAndFourItems();
        for (int i : new int[] {-1, 1, 4, MIN, MAX}) {
            Due.due(12, "check(0, 15, 0, " + i + ", 4)", x.check(0, 15, 0, i, 4), Due.PLACE);
        }
        Due.due(39, "status()", x.status(), 2);
        Due.due(12, "two from 2 on", x.check(0, 0, 0, 2, 2), 0);
        Due.due(12, "two from 3 on", x.check(0, 0, 0, 3, 2), Due.PLACE);
        x.set(0, 3, -1);
        Due.due(12, "PLACE ahead of an ITEM", x.check(0, 0, 0, 3, 2), Due.PLACE);
    }

    /** Promise 12: "then BAD: an ITEM is not 0 to 65520 (a value: to 999)." A half's sum. */
    static void aCheckedHalfIs0To65520() {
        PaperPocket x = onePaperAndFourItems();
        for (int i = 0; i < 2; i++) {
            int[][] due = {{0, 0}, {65520, 0}, {-1, Due.BAD}, {65521, Due.BAD}, {MIN, Due.BAD}, {MAX, Due.BAD}};
            for (int[] one : due) {
                Due.fill(x, 0, 0, 0);
                x.set(0, i, one[0]);
                Due.due(12, "half " + i + " is " + one[0], x.check(0, 0, 0, 0, 2), one[1]);
            }
        }
    }

    /** Promise 12: "then BAD: an ITEM is not 0 to 65520 (a value: to 999)." A LEAF, of either half. */
    static void aCheckedLeafIs0To65520() {
        PaperPocket x = onePaperAndFourItems();
        int[][] due = {{0, 0}, {1000, 0}, {65520, 0}, {-1, Due.BAD}, {65521, Due.BAD}, {MIN, Due.BAD}, {MAX, Due.BAD}};
        int[][] leaves = {{1, 1}, {2, 0}, {4, 2}, {8, 1}};
        for (int[] leaf : leaves) {
            for (int[] one : due) {
                Due.fill(x, 0, 7, 7, 7);
                x.set(0, leaf[1], one[0]);
                Due.due(12, "LEAF of set " + leaf[0] + " is " + one[0], x.check(0, leaf[0], 0, 0, 3), one[1]);
            }
        }
    }

    /** Promise 12: "then BAD: an ITEM is not 0 to 65520 (a value: to 999)." */
    static void aCheckedValueIs0To999() {
        PaperPocket x = onePaperAndFourItems();
        int[][] due = {{0, 1}, {999, 0}, {-1, Due.BAD}, {1000, Due.BAD}, {65520, Due.BAD}, {MIN, Due.BAD}, {MAX, Due.BAD}};
        for (int i = 0; i < 4; i++) {
            for (int[] one : due) {
                Due.fill(x, 0, 0, 0, 0, 0);
                x.set(0, i, one[0]);
                Due.due(12, "value " + i + " is " + one[0], x.check(0, 15, 0, 0, 4), one[1]);
            }
        }
    }

    /** Promise 12: "then BAD: an ITEM is not 0 to 65520 (a value: to 999)." Such a call leaves status(). */
    static void aCheckedItemsBadLeavesTheStatus() {
        PaperPocket x = onePaperAndFourItems();
        x.set(0, 3, 1000);
        x.drop(5);
        Due.due(12, "check(0, 15, 0, 0, 4)", x.check(0, 15, 0, 0, 4), Due.BAD);
        Due.due(39, "status()", x.status(), 1);
        Due.due(12, "check(0, 0, 0, 0, 2)", x.check(0, 0, 0, 0, 2), 0);
        Due.due(39, "status()", x.status(), 0);
    }

    // ---- Promise 13

    /**
     * Promise 13: "LIES: for how many values 0 to 999 of a FIELD a SHOWING of it with all else as it is would be
     * taken." The true value 0, or 999, is counted, too.
     */
    static void theLeastAndTheGreatestValueAreCounted() {
        for (int value : new int[] {0, 999}) {
            PaperPocket x = new PaperPocket();
            int[] fields = {value, value, value, value};
            tellFields(x, value, value, value, value);
            for (int field = 0; field < 4; field++) {
                Due.due(13, "lies(0, " + field + ") of " + value, x.lies(0, field), liesOf(fields, field));
                Due.due(13, "one at least", x.lies(0, field) >= 1 ? 1 : 0, 1);
            }
        }
    }

    private static int liesOf(int[] fields, int field) {
        int[] other = fields.clone();
        int many = 0;
        for (other[field] = 0; other[field] <= 999; other[field]++) {
            many += Due.root(0, other) == Due.root(0, fields) ? 1 : 0;
        }
        return many;
    }

    /**
     * Promise 13: "LIES: for how many values 0 to 999 of a FIELD a SHOWING of it with all else as it is would be
     * taken." Values with M less their sum give the same ROOT.
     */
    static void aLieMayBeTaken() {
        for (int other = 0; other < 1000; other++) {
            int[] valueOf = new int[Due.M];
            for (int value = 1; value < 1000; value++) {
                int left = Due.join(Due.leaf(0, 0, value), Due.leaf(0, 1, other));
                int like = Math.min(left, Due.M - left) % Due.M;
                if (valueOf[like] != 0) {
                    PaperPocket x = new PaperPocket();
                    tellFields(x, value, other, 1, 1);
                    Due.due(13, "lies(0, 0)", x.lies(0, 0), liesOf(new int[] {value, other, 1, 1}, 0));
                    Due.due(13, "two at least", x.lies(0, 0) >= 2 ? 1 : 0, 1);
                    Due.fill(x, 0, valueOf[like], other, 1, 1);
                    Due.due(12, "the lie is taken", x.check(0, 15, 0, 0, 4), 1);
                    return;
                }
                valueOf[like] = value;
            }
        }
        Due.due(13, "a FIELD with such a lie is found", 0, 1);
    }

    /** Promise 13: "would be taken. BAD." */
    static void liesOfNoSuchPaperIsBad() {
        PaperPocket x = new PaperPocket();
        Due.due(13, "there is none", x.lies(0, 0), Due.BAD);
        tellFields(x, 0, 0, 0, 0);
        for (int paper : new int[] {-1, 1, 12, MIN, MAX}) {
            Due.due(13, "lies(" + paper + ", 0)", x.lies(paper, 0), Due.BAD);
        }
    }

    /** Promise 13: "would be taken. BAD." */
    static void liesOfNoSuchFieldIsBad() {
        PaperPocket x = new PaperPocket();
        tellFields(x, 0, 0, 0, 0);
        for (int field : NO_FIELDS) {
            Due.due(13, "lies(0, " + field + ")", x.lies(0, field), Due.BAD);
        }
    }

    // ---- Promises 14, 15

    /**
     * Promise 10: "A CHAIN of FIELD i of PAPER p: STEP of x: (x x and 3) modulo M; its BEGINNING (101 p and 17 i and
     * 1); its END: the value and 1 STEPS from the BEGINNING." A value 0 is one STEP, 999 are 1000.
     */
    static void theShortestAndTheLongestChain() {
        PaperPocket x = new PaperPocket();
        for (int p = 0; p < 12; p++) {
            tellFields(x, 0, 999, 0, 999);
        }
        Due.due(10, "END of FIELD 0 of PAPER 0", x.told(0, 12), 1 + 3);
        Due.due(10, "END of FIELD 2 of PAPER 11", x.told(11, 14), (1146 * 1146 + 3) % 65521);
        Due.due(10, "END of FIELD 1 of PAPER 0", x.told(0, 13), Due.steps(18, 1000));
        Due.due(10, "END of FIELD 3 of PAPER 11", x.told(11, 15), Due.steps(1111 + 51 + 1, 1000));
    }

    /** Promise 14: "OVER a bound b (0 to the value): the number the value less b STEPS from the BEGINNING" */
    static void overTheLeastAndTheGreatestBound() {
        PaperPocket x = new PaperPocket();
        tellFields(x, 0, 1, 500, 999);
        Due.due(14, "b = the value 0", x.over(0, 0, 0), 1);
        Due.due(14, "b = the value 1", x.over(0, 1, 1), 18);
        Due.due(14, "b one less", x.over(0, 1, 0), 18 * 18 + 3);
        Due.due(14, "b = the value 500", x.over(0, 2, 500), 35);
        Due.due(14, "b = 499", x.over(0, 2, 499), 35 * 35 + 3);
        Due.due(14, "b = the value 999", x.over(0, 3, 999), 52);
        Due.due(14, "b = 0 of 999", x.over(0, 3, 0), Due.steps(52, 999));
    }

    /** Promise 15: "it is taken, if b and 1 STEPS from it come to the END." */
    static void whatIsOverIsTaken() {
        PaperPocket x = new PaperPocket();
        tellFields(x, 0, 1, 500, 999);
        int[] values = {0, 1, 500, 999};
        for (int field = 0; field < 4; field++) {
            for (int b : new int[] {0, values[field] / 2, values[field]}) {
                Due.due(15, "isOver(0, " + field + ", " + b + ")", x.isOver(0, field, b, x.over(0, field, b)), 1);
            }
        }
    }

    /** Promise 15: "it is taken, if b and 1 STEPS from it come to the END." Not one STEP fewer, nor one more. */
    static void oneStepFewerOrMoreIsNotTaken() {
        PaperPocket x = new PaperPocket();
        tellFields(x, 0, 0, 500, 0);
        int number = x.over(0, 2, 200);
        Due.due(15, "b = 200", x.isOver(0, 2, 200, number), 1);
        Due.due(15, "b = 199", x.isOver(0, 2, 199, number), 0);
        Due.due(15, "b = 201", x.isOver(0, 2, 201, number), 0);
    }

    /** Promise 14: "OVER: the number for a bound b. BAD: PAPER, FIELD, b (0 to 999); STATE: the value is less." */
    static void overOfNoSuchPaperIsBad() {
        PaperPocket x = new PaperPocket();
        Due.due(14, "there is none", x.over(0, 0, 0), Due.BAD);
        tellFields(x, 0, 0, 0, 0);
        for (int paper : new int[] {-1, 1, 12, MIN, MAX}) {
            Due.due(14, "over(" + paper + ", 0, 0)", x.over(paper, 0, 0), Due.BAD);
        }
    }

    /** Promise 14: "OVER: the number for a bound b. BAD: PAPER, FIELD, b (0 to 999); STATE: the value is less." */
    static void overOfNoSuchFieldIsBad() {
        PaperPocket x = new PaperPocket();
        tellFields(x, 0, 0, 0, 0);
        for (int field : NO_FIELDS) {
            Due.due(14, "over(0, " + field + ", 0)", x.over(0, field, 0), Due.BAD);
        }
    }

    /**
     * Promise 14: "OVER: the number for a bound b. BAD: PAPER, FIELD, b (0 to 999); STATE: the value is less." BAD
     * comes ahead of STATE.
     */
    static void overANoSuchBoundIsBad() {
        PaperPocket x = new PaperPocket();
        tellFields(x, 0, 999, 0, 0);
        for (int b : new int[] {-1, 1000, MIN, MAX}) {
            Due.due(14, "over(0, 0, " + b + ")", x.over(0, 0, b), Due.BAD);
            Due.due(14, "over(0, 1, " + b + ")", x.over(0, 1, b), Due.BAD);
        }
    }

    /** Promise 14: "OVER: the number for a bound b. BAD: PAPER, FIELD, b (0 to 999); STATE: the value is less." */
    static void overABoundAboveTheValueIsState() {
        PaperPocket x = new PaperPocket();
        tellFields(x, 0, 500, 998, 0);
        Due.due(14, "over(0, 0, 1)", x.over(0, 0, 1), Due.STATE);
        Due.due(14, "over(0, 1, 501)", x.over(0, 1, 501), Due.STATE);
        Due.due(14, "over(0, 1, 500)", x.over(0, 1, 500), 18);
        Due.due(14, "over(0, 2, 999)", x.over(0, 2, 999), Due.STATE);
    }

    /** Promise 15: "Whether a number (0 to 65520) is taken for a bound b: 1, 0." */
    static void theLeastAndTheGreatestNumber() {
        PaperPocket x = new PaperPocket();
        tellFields(x, 0, 0, 0, 0);
        // The END of FIELD 0 is 4, to which 1 STEP comes from 1 and from M less 1 alone.
        Due.due(15, "isOver(0, 0, 0, 0)", x.isOver(0, 0, 0, 0), 0);
        Due.due(15, "isOver(0, 0, 0, 1)", x.isOver(0, 0, 0, 1), 1);
        Due.due(15, "isOver(0, 0, 0, 65520)", x.isOver(0, 0, 0, 65520), 1);
    }

    /** Promise 15: "Whether a number (0 to 65520) is taken for a bound b: 1, 0. BAD." */
    static void otherNumbersAreBad() {
        PaperPocket x = new PaperPocket();
        tellFields(x, 0, 0, 0, 0);
        for (int number : new int[] {-1, 65521, 65522, MIN, MAX}) {
            Due.due(15, "isOver(0, 0, 0, " + number + ")", x.isOver(0, 0, 0, number), Due.BAD);
        }
    }

    /** Promise 15: "Whether a number (0 to 65520) is taken for a bound b: 1, 0. BAD." */
    static void isOverOfNoSuchPaperIsBad() {
        PaperPocket x = new PaperPocket();
        Due.due(15, "there is none", x.isOver(0, 0, 0, 1), Due.BAD);
        tellFields(x, 0, 0, 0, 0);
        for (int paper : new int[] {-1, 1, 12, MIN, MAX}) {
            Due.due(15, "isOver(" + paper + ", 0, 0, 1)", x.isOver(paper, 0, 0, 1), Due.BAD);
        }
    }

    /** Promise 15: "Whether a number (0 to 65520) is taken for a bound b: 1, 0. BAD." */
    static void isOverOfNoSuchFieldIsBad() {
        PaperPocket x = new PaperPocket();
        tellFields(x, 0, 0, 0, 0);
        for (int field : NO_FIELDS) {
            Due.due(15, "isOver(0, " + field + ", 0, 1)", x.isOver(0, field, 0, 1), Due.BAD);
        }
    }

    /**
     * Promise 15: "Whether a number (0 to 65520) is taken for a bound b: 1, 0. BAD." Bounds are 0 to 999, and one above
     * the value is none that is refused.
     */
    static void isOverOfNoSuchBoundIsBad() {
        PaperPocket x = new PaperPocket();
        tellFields(x, 0, 0, 0, 0);
        for (int b : new int[] {-1, 1000, MIN, MAX}) {
            Due.due(15, "isOver(0, 0, " + b + ", 1)", x.isOver(0, 0, b, 1), Due.BAD);
        }
        Due.due(15, "isOver(0, 0, 1, 1)", x.isOver(0, 0, 1, 1), 0);
        Due.due(15, "isOver(0, 0, 999, 1)", x.isOver(0, 0, 999, 1), 0);
    }
}
