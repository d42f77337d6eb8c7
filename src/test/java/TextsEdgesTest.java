/** The edges of THE TAPE and of TEXTS, promises 25 to 28: what each sentence of the document names has a test of its own. */
public final class TextsEdgesTest {
    private static final int MAX = Integer.MAX_VALUE, MIN = Integer.MIN_VALUE;

    public static void main(String[] args) {
        Due.runAll(TextsEdgesTest.class);
    }

    private static void faultDue(String text, int place, int fault) {
        PaperPocket x = new PaperPocket();
        String shown = text.replace('\n', '|');
        Due.due(26, "doors() of '" + shown + "'", Due.read(x, text), -1000100 - place);
        Due.due(27, "fault() of '" + shown + "'", x.fault(), fault);
        Due.due(38, "the tape is empty", x.count(5), 0);
    }

    private static void textsDue(String text, int many) {
        PaperPocket x = new PaperPocket();
        Due.due(26, "doors() of '" + text.replace('\n', '|') + "'", Due.read(x, text), many);
        Due.due(27, "fault()", x.fault(), 0);
        Due.due(38, "the tape is empty", x.count(5), 0);
    }

    // ---- Promise 25

    /** Promise 25: "TEXTS: THE TAPE has at most 300 bytes" */
    static void theTapeHas300Bytes() {
        PaperPocket x = new PaperPocket();
        for (int i = 1; i <= 37; i++) {
            Due.due(25, "feed", x.feed(0x2020202020202020L, 8), 8 * i);
        }
        Due.due(25, "the last four", x.feed(0x20202020L, 4), 300);
        Due.due(25, "one more", x.feed(0x20, 1), Due.FULL);
        Due.due(38, "count(5)", x.count(5), 300);
        Due.due(26, "blanks alone", x.doors(), 0);
        Due.due(25, "there is room again", x.feed(0x20, 1), 1);
    }

    /** Promise 25: "BAD: n; FULL: none comes." Not even those for which there were room. */
    static void whereOneDoesNotFitNoneComes() {
        PaperPocket x = new PaperPocket();
        Due.feed(x, " ".repeat(296));
        for (int n = 5; n <= 8; n++) {
            Due.due(25, "feed(.., " + n + ")", x.feed(0x78787878787878L, n), Due.FULL);
            Due.due(38, "count(5)", x.count(5), 296);
        }
        Due.due(25, "four", x.feed(0x20202020L, 4), 300);
        Due.due(26, "no 'x' came", x.doors(), 0);
    }

    /** Promise 25: "The lowest n bytes of w (1 to 8), the highest of them first, come behind the tape: how many it has." */
    static void theHighestByteComesFirst() {
        PaperPocket x = new PaperPocket();
        Due.due(25, "'door 2;'", x.feed(0x646f6f7220323bL, 7), 7);
        Due.due(26, "doors()", x.doors(), 1);
        Due.due(25, "'door  2;' less its last byte", x.feed(0x646f6f7220202032L, 8), 8);
        Due.due(25, "its last byte", x.feed(0x3b, 1), 9);
        Due.due(26, "doors()", x.doors(), 1);
    }

    /**
     * Promise 25: "The lowest n bytes of w (1 to 8), the highest of them first, come behind the tape: how many it has."
     * Those above the lowest n do not come.
     */
    static void theBytesAboveDoNotCome() {
        for (int n = 1; n <= 8; n++) {
            PaperPocket x = new PaperPocket();
            long blanks = 0x2020202020202020L;
            long above = n == 8 ? 0 : -1L << 8 * n;
            Due.due(25, "feed(.., " + n + ")", x.feed(blanks & ~above | above, n), n);
            Due.due(26, "blanks alone", x.doors(), 0);
            x.feed(blanks & ~(255L << 8 * (n - 1)) | (long) 'x' << 8 * (n - 1), n);
            Due.due(26, "the highest of " + n + " is 'x'", x.doors(), -1000100);
            x.feed(blanks & ~255L | 'x', n);
            Due.due(26, "the lowest of " + n + " is 'x'", x.doors(), -1000100 - (n - 1));
        }
    }

    /** Promise 25: "come behind the tape: how many it has." */
    static void bytesComeBehindTheTape() {
        PaperPocket x = new PaperPocket();
        int many = 0;
        for (char sign : "door 0;".toCharArray()) {
            many++;
            Due.due(25, "feed of one", x.feed(sign, 1), many);
        }
        Due.due(38, "count(5)", x.count(5), 7);
        Due.due(26, "doors()", x.doors(), 1);
    }

    /** Promise 25: "BAD: n; FULL: none comes." BAD comes ahead of FULL. */
    static void feedOfNoSuchNIsBad() {
        PaperPocket x = new PaperPocket();
        for (int n : new int[] {-1, 0, 9, MIN, MAX}) {
            Due.due(25, "feed(0, " + n + ")", x.feed(0, n), Due.BAD);
        }
        Due.due(38, "count(5)", x.count(5), 0);
        Due.feed(x, " ".repeat(300));
        Due.due(25, "feed(0, 9)", x.feed(0, 9), Due.BAD);
        Due.due(25, "feed(0, 0)", x.feed(0, 0), Due.BAD);
    }

    // ---- Terms, part 3: tokens

    /** Promise 26: "TOKENS: NAMES (letters a to z)" Signs beside a and z, and great letters, are none. */
    static void lettersAreAToZ() {
        faultDue("doora 0;", 0, 1);
        faultDue("doorz 0;", 0, 1);
        faultDue("door` 0;", 4, 1);
        faultDue("door{ 0;", 4, 1);
        faultDue("doorA 0;", 4, 1);
        faultDue("doorZ 0;", 4, 1);
        faultDue("Door 0;", 0, 1);
        faultDue("door" + (char) (128 + 'a') + " 0;", 4, 1);
    }

    /** Promise 26: "NUMBERS (figures, 3 at most)" */
    static void figuresAre0To9() {
        faultDue("door 9;", 5, 2);
        faultDue("door /;", 5, 1);
        faultDue("door :;", 5, 1);
        faultDue("door 0/;", 6, 1);
        faultDue("door 0:;", 6, 1);
        faultDue("door -1;", 5, 1);
        faultDue("door " + (char) (128 + '0') + ";", 5, 1);
    }

    /** Promise 26: "NUMBERS (figures, 3 at most)" Four figures are no TOKEN, whatever number they were. */
    static void numbersHaveThreeFiguresAtMost() {
        textsDue("door 3;", 1);
        textsDue("door 03;", 1);
        textsDue("door 003;", 1);
        textsDue("door 0 over 0 999;", 1);
        faultDue("door 0003;", 5, 1);
        faultDue("door 0 over 0 1000;", 14, 1);
        faultDue("right 0 0001;", 8, 1);
        faultDue("door 0 over 0000 1;", 12, 1);
        faultDue("0".repeat(300), 0, 1);
        faultDue("door " + "9".repeat(295), 5, 1);
    }

    /** Promise 26: "SIGNS ;" No other sign is one. */
    static void theOnlySignIsTheSemicolon() {
        textsDue("door 0;", 1);
        for (char sign : new char[] {':', '<', ',', '.', '\'', '|', 128 + ';'}) {
            faultDue("door 0" + sign, 6, 1);
        }
    }

    /** Promise 26: "bytes 32 and 10 between." At the front, at the end and between, as many as there are. */
    static void bytes32And10StandBetween() {
        textsDue("\n door \n\n 1  \n from\n3 \n;  \n", 1);
        textsDue(" ", 0);
        textsDue("\n", 0);
        textsDue("\n".repeat(293) + "door 0;", 1);
        textsDue("door 0;" + " ".repeat(293), 1);
        textsDue("door" + " ".repeat(294) + "0;", 1);
    }

    /** Promise 26: "bytes 32 and 10 between." No other byte does. */
    static void noOtherByteStandsBetween() {
        for (int sign : new int[] {0, 9, 11, 13, 31, 33, 127, 128 + 10, 128 + 32, 255}) {
            faultDue("door" + (char) sign + "0;", 4, 1);
            faultDue("" + (char) sign, 0, 1);
        }
    }

    /** Promise 26: "bytes 32 and 10 between." Where two TOKENS cannot run into one, nothing needs to stand between. */
    static void nothingNeedsToStandBetweenUnlikeTokens() {
        PaperPocket x = new PaperPocket();
        Due.due(26, "doors()", Due.read(x, "door1from3field0over2 999;right1 0 2;door2;"), 3);
        Due.due(28, "asks", x.door(1, 0), 3);
        Due.due(28, "rights", x.door(1, 1), 5);
        faultDue("door1fromfield0;", 5, 1);
        faultDue("door 0 over 0999;", 12, 1);
    }

    // ---- Terms, part 3: texts

    /**
     * Promise 26: "text: { 'door' NUMBER { 'from' NUMBER | 'field' NUMBER | 'over' NUMBER NUMBER } ';' | 'right' NUMBER
     * { NUMBER } ';' }" None, one and as many as fit.
     */
    static void fromNoTextToAsManyAsFit() {
        textsDue("", 0);
        textsDue("door 0;", 1);
        textsDue("right 3;", 1);
        textsDue("right 0;door 0;right 0 0;", 3);
        textsDue("door0;".repeat(50), 50);
        textsDue("right3;".repeat(42), 42);
    }

    /**
     * Promise 26: "text: { 'door' NUMBER { 'from' NUMBER | 'field' NUMBER | 'over' NUMBER NUMBER } ';' | 'right' NUMBER
     * { NUMBER } ';' }" What cannot stand at the front of a text.
     */
    static void aTextBeginsWithDoorOrRight() {
        for (String word : new String[] {";", "0", "from", "field", "over", "doors", "doo", "rights", "righ", "light", "x"}) {
            faultDue(word, 0, 1);
            faultDue("door 0;\n" + word + " 0;", 8, 1);
        }
        faultDue("door 0;;", 7, 1);
    }

    /** Promise 26: "'door' NUMBER {" Behind 'door' a NUMBER stands. */
    static void behindDoorANumberStands() {
        faultDue("door", 4, 1);
        faultDue("door ;", 5, 1);
        faultDue("door door 0;", 5, 1);
        faultDue("door from 0;", 5, 1);
    }

    /**
     * Promise 26: "{ 'from' NUMBER | 'field' NUMBER | 'over' NUMBER NUMBER } ';'" Between the DOOR and ';' asks stand,
     * and nothing else.
     */
    static void behindADoorAsksStand() {
        faultDue("door 0", 6, 1);
        faultDue("door 0 0;", 7, 1);
        faultDue("door 0 door 1;", 7, 1);
        faultDue("door 0 right 1;", 7, 1);
        for (String word : new String[] {"fro", "froms", "iver", "fields", "fiel", "overs", "ove"}) {
            faultDue("door 0 " + word + " 0;", 7, 1);
        }
        faultDue("door 0 from 1 2;", 14, 1);
        faultDue("door 0 field 1 2;", 15, 1);
        faultDue("door 0 over 1 2 3;", 16, 1);
    }

    /** Promise 26: "{ 'from' NUMBER | 'field' NUMBER | 'over' NUMBER NUMBER } ';'" Behind an ask's word its NUMBERS stand. */
    static void behindAnAskItsNumbersStand() {
        faultDue("door 0 from", 11, 1);
        faultDue("door 0 from;", 11, 1);
        faultDue("door 0 from from 1;", 12, 1);
        faultDue("door 0 field;", 12, 1);
        faultDue("door 0 field x;", 13, 1);
        faultDue("door 0 over;", 11, 1);
        faultDue("door 0 over 1;", 13, 1);
        faultDue("door 0 over 1 over 1 1;", 14, 1);
        faultDue("door 0 over 1 5", 15, 1);
    }

    /** Promise 26: "'right' NUMBER { NUMBER } ';'" Behind 'right' NUMBERS stand, one at least. */
    static void behindRightNumbersStand() {
        faultDue("right", 5, 1);
        faultDue("right;", 5, 1);
        faultDue("right x;", 6, 1);
        faultDue("right 0", 7, 1);
        faultDue("right 0 field;", 8, 1);
        faultDue("right 0 1 right 1;", 10, 1);
        faultDue("right 0 1", 9, 1);
        textsDue("right 0" + " 3".repeat(146) + ";", 1);
    }

    /**
     * Promise 28: "what a DOOR asks from now on (8 at most; all at once, in place of what it asked)" Eight are, and a
     * text without any takes them all away.
     */
    static void whatADoorAsksIsReplaced() {
        PaperPocket x = new PaperPocket();
        Due.read(x, "door 1 " + "field 3 ".repeat(8) + ";");
        Due.due(28, "eight asks", x.door(1, 0), 8);
        Due.read(x, "door 1 from 0;");
        Due.due(28, "one ask", x.door(1, 0), 1);
        Due.read(x, "door 1;");
        Due.due(28, "no ask", x.door(1, 0), 0);
        Due.read(x, "right 1 0;");
        Due.due(28, "'right' changes no ask", x.door(1, 0), 0);
    }

    /**
     * Promise 29: "in place of what it asked): a PAPER of an OFFICE; a FIELD (0 to 3) be shown; that a FIELD is so much
     * or more." What was asked before is no longer asked.
     */
    static void whatWasAskedBeforeIsAskedNoLonger() {
        PaperPocket x = new PaperPocket();
        Due.tell(x, 0, 0, 0, 0, 9, 5, 5, 5, 5);
        Due.read(x, "door 0 from 3 over 0 6;");
        Due.due(29, "it does not do", x.least(0, 0, 0, 0), Due.NONE);
        Due.read(x, "door 0 from 0 over 3 5;");
        Due.due(29, "it does", x.least(0, 0, 0, 1), 3);
    }

    /** Promise 28: "all at once, in place of what it asked" Each DOOR has its own. */
    static void eachDoorHasItsOwnAsks() {
        PaperPocket x = new PaperPocket();
        Due.read(x, "door 0 from 0;door 1 from 0 from 1;door 2 " + "from 0 ".repeat(3) + ";door 3 " + "from 0 ".repeat(4) + ";");
        for (int door = 0; door <= 3; door++) {
            Due.due(28, "asks of " + door, x.door(door, 0), door + 1);
        }
    }

    /** Promise 28: "'right': which FIELDS it may ask (in place of what it might; at first all)." */
    static void whatADoorMayAskIsReplaced() {
        PaperPocket x = new PaperPocket();
        Due.due(28, "at first", x.door(2, 1), 15);
        int[][] due = {{0, 1}, {1, 2}, {2, 4}, {3, 8}};
        for (int[] one : due) {
            Due.read(x, "right 2 " + one[0] + ";");
            Due.due(28, "FIELD " + one[0], x.door(2, 1), one[1]);
        }
        Due.read(x, "right 2 3 0 3 0;");
        Due.due(28, "two FIELDS, told twice", x.door(2, 1), 9);
        Due.read(x, "right 2;");
        Due.due(28, "none", x.door(2, 1), 0);
        Due.read(x, "door 2 field 1;");
        Due.due(28, "'door' changes no right", x.door(2, 1), 0);
        Due.read(x, "right 2 0 1 2 3;");
        Due.due(28, "all", x.door(2, 1), 15);
        Due.due(28, "another DOOR", x.door(1, 1), 15);
    }

    /** Promise 26: "They are done when all is read." One behind the other: of one DOOR the last text stays. */
    static void ofOneDoorTheLastTextStays() {
        PaperPocket x = new PaperPocket();
        Due.due(26, "doors()", Due.read(x, "door 0 field 0 field 1;door 0 from 1;right 0;right 0 2;"), 4);
        Due.due(28, "asks", x.door(0, 0), 1);
        Due.due(28, "rights", x.door(0, 1), 4);
    }

    /** Promise 26: "They are done when all is read." A FAULT at the very end leaves all as it was. */
    static void aFaultAtTheEndLeavesAllAsItWas() {
        PaperPocket x = new PaperPocket();
        Due.read(x, "door 0 field 0;right 0 0;");
        Due.due(26, "doors()", Due.read(x, "door 0;door 1 from 1;right 0;right 1;x"), -1000137);
        Due.due(28, "asks of 0", x.door(0, 0), 1);
        Due.due(28, "asks of 1", x.door(1, 0), 0);
        Due.due(28, "rights of 0", x.door(0, 1), 1);
        Due.due(28, "rights of 1", x.door(1, 1), 15);
    }

    // ---- Terms, part 3: faults

    /** Promise 26: "FAULTS, the first TOKEN that has one (its first byte)" Not a worse one behind it, nor a less one. */
    static void theFirstTokenThatHasAFault() {
        faultDue("door 9 from x;", 5, 2);
        faultDue("door x from 9;", 5, 1);
        faultDue("door 0 from 9 field 9;", 12, 2);
        faultDue("door 0 " + "from 0 ".repeat(8) + "from x ?;", 63, 3);
        faultDue("door 0; right 777 #", 14, 2);
    }

    /** Promise 26: "the first TOKEN that has one (its first byte)" Of a TOKEN of several bytes, behind blanks. */
    static void theFirstByteOfATokenIsItsPlace() {
        faultDue("\n\n  abc", 4, 1);
        faultDue("door   123;", 7, 2);
        faultDue("door   12345;", 7, 1);
        faultDue("door 0 \n field \n 04;", 17, 2);
    }

    /** Promise 27: "of one TOKEN the least" A NUMBER that cannot stand there is not looked at for what it is. */
    static void ofOneTokenTheLeastFault() {
        faultDue("9", 0, 1);
        faultDue("door 0 9;", 7, 1);
        faultDue("door 0 from 3 9;", 14, 1);
        faultDue("door 0 " + "from 0 ".repeat(8) + "9;", 63, 1);
        faultDue("door 0 " + "from 0 ".repeat(8) + "x 9;", 63, 1);
        faultDue("door 0 " + "from 0 ".repeat(8) + "door 0;", 63, 1);
        faultDue("door 9999;", 5, 1);
    }

    /** Promise 26: "1 it cannot stand there, or is none (the end: how many bytes there are)" The first place, and the last. */
    static void theEndsPlaceIsHowManyBytesThereAre() {
        faultDue("x", 0, 1);
        faultDue("door", 4, 1);
        faultDue("door ", 5, 1);
        faultDue("door \n\n", 7, 1);
        faultDue("right 0 0 \n", 11, 1);
        faultDue("door 0" + " ".repeat(294), 300, 1);
        faultDue(" ".repeat(299) + "x", 299, 1);
        faultDue("x".repeat(300), 0, 1);
        faultDue(" ".repeat(296) + "door", 300, 1);
    }

    /** Promise 27: "2 a NUMBER that is not as told" DOORS are 0 to 3. */
    static void aNumberThatIsNoDoor() {
        textsDue("door 0;door 3;right 0;right 3;", 4);
        faultDue("door 4;", 5, 2);
        faultDue("door 999;", 5, 2);
        faultDue("right 4;", 6, 2);
        faultDue("right 999;", 6, 2);
    }

    /** Promise 27: "2 a NUMBER that is not as told" OFFICES are 0 to 3. */
    static void aNumberThatIsNoOffice() {
        textsDue("door 0 from 0 from 3;", 1);
        faultDue("door 0 from 4;", 12, 2);
        faultDue("door 0 from 0 from 999;", 19, 2);
    }

    /** Promise 27: "2 a NUMBER that is not as told" FIELDS are 0 to 3. */
    static void aNumberThatIsNoField() {
        textsDue("door 0 field 0 field 3 over 0 0 over 3 0;right 0 0 3;", 2);
        faultDue("door 0 field 4;", 13, 2);
        faultDue("door 0 over 4 0;", 12, 2);
        faultDue("door 0 over 999;", 12, 2);
        faultDue("right 0 4;", 8, 2);
        faultDue("right 0 0 1 2 3 4;", 16, 2);
    }

    /** Promise 27: "2 a NUMBER that is not as told" A bound may be any NUMBER, 0 to 999. */
    static void aBoundIsAnyNumber() {
        textsDue("door 0 over 0 0 over 0 000 over 0 999 over 0 1;", 1);
    }

    /** Promise 27: "3 the 9th ask of a DOOR (its word)." By whichever word; its NUMBERS are not reached. */
    static void theNinthAskOfADoor() {
        String eight = "door 3 " + "from 0 ".repeat(8);
        textsDue(eight + ";", 1);
        faultDue(eight + "from 0;", 63, 3);
        faultDue(eight + "field 9;", 63, 3);
        faultDue(eight + "over", 63, 3);
        faultDue(eight + "from 0 from 0;", 63, 3);
        faultDue("door 3 " + "over 1 1 ".repeat(8) + "over 1 1;", 79, 3);
        faultDue("door 3 " + "field 1 ".repeat(8) + "from 1;", 71, 3);
        faultDue(eight, 63, 1);
    }

    /** Promise 27: "3 the 9th ask of a DOOR (its word)." Another DOOR has its own eight, and so has a text in place of one. */
    static void eachTextHasItsOwnEightAsks() {
        textsDue("door 0 " + "from 0 ".repeat(8) + ";door 1 " + "from 0 ".repeat(8) + ";", 2);
        textsDue("door 0 " + "from 0 ".repeat(8) + ";door 0 " + "from 0 ".repeat(8) + ";", 2);
        faultDue("door 0 " + "from 0 ".repeat(8) + ";door 0 " + "from 0 ".repeat(9) + ";", 127, 3);
        PaperPocket x = new PaperPocket();
        Due.read(x, "door 0 " + "from 0 ".repeat(8) + ";");
        Due.due(26, "a text in place of eight", Due.read(x, "door 0 " + "from 0 ".repeat(8) + ";"), 1);
        Due.due(28, "asks", x.door(0, 0), 8);
    }

    // ---- Promises 26, 27

    /**
     * Promise 26: "The tape, empty then, is read and done: how many texts ('door', 'right') there were." An empty tape
     * has none, and what was read is not read again.
     */
    static void theTapeIsEmptyBehindItsReading() {
        PaperPocket x = new PaperPocket();
        Due.due(26, "nothing was fed", x.doors(), 0);
        Due.due(26, "doors()", Due.read(x, "door 0 from 1;"), 1);
        Due.due(38, "count(5)", x.count(5), 0);
        Due.due(26, "again", x.doors(), 0);
        Due.due(28, "the ask stays", x.door(0, 0), 1);
    }

    /**
     * Promise 26: "-1000100 less the place of a FAULT: nothing is done." The tape is empty then, too: no 'door 0;'
     * comes of it and a ';' behind.
     */
    static void theTapeIsEmptyBehindAFault() {
        PaperPocket x = new PaperPocket();
        Due.due(26, "doors()", Due.read(x, "door 0"), -1000106);
        Due.due(38, "count(5)", x.count(5), 0);
        Due.due(26, "doors()", Due.read(x, ";"), -1000100);
        Due.due(26, "doors()", x.doors(), 0);
    }

    /** Promise 27: "The number of the latest FAULT; 0 before one." */
    static void theLatestFaultsNumber() {
        PaperPocket x = new PaperPocket();
        Due.due(27, "before one", x.fault(), 0);
        Due.read(x, "door 0;");
        Due.due(27, "behind a good text", x.fault(), 0);
        Due.read(x, "door 0 " + "from 0 ".repeat(9));
        Due.due(27, "behind a 9th ask", x.fault(), 3);
        Due.read(x, "door 4");
        Due.due(27, "behind a NUMBER", x.fault(), 2);
        Due.read(x, "door 0;");
        Due.due(27, "it stays behind a good text", x.fault(), 2);
        Due.read(x, "?");
        Due.due(27, "behind what is no TOKEN", x.fault(), 1);
        Due.due(26, "nothing is read", x.doors(), 0);
        Due.due(27, "it stays", x.fault(), 1);
    }
}
