/** Promises 22 to 32. */
public final class DoorsTest {
    public static void main(String[] args) {
        book();
        revoke();
        holdsByDays();
        holdsByEnds();
        feed();
        texts();
        faults();
        rights();
        least();
        leastRefused();
        seen();
        together();
        queue();
        queueRefused();
        Due.end();
    }

    private static void book() {
        PaperPocket x = new PaperPocket();
        Due.due(22, "book(3, 999)", x.book(3, 999), 0);
        Due.due(22, "book(3, 5)", x.book(3, 5), 999);
        Due.due(22, "book(2, 5)", x.book(2, 5), 0);
        int[][] wrong = {{-1, 0}, {4, 0}, {3, -1}, {3, 1000}};
        for (int[] w : wrong) {
            Due.due(22, "book of wrong numbers", x.book(w[0], w[1]), Due.BAD);
        }
        Due.due(22, "book(3, 0)", x.book(3, 0), 5);
    }

    private static void revoke() {
        PaperPocket x = new PaperPocket();
        Due.due(23, "no paper", x.revoke(0, 0), Due.BAD);
        Due.tell(x, 0, 0, 0, 0, 0, 0, 0, 0, 0);
        Due.tell(x, 0, 0, 0, 0, 0, 0, 0, 0, 0);
        Due.due(23, "revoke(1, 999)", x.revoke(1, 999), 1);
        Due.due(23, "again", x.revoke(1, 3), Due.STATE);
        Due.due(23, "BAD first", x.revoke(1, 1000), Due.BAD);
        Due.due(23, "revoke(0, -1)", x.revoke(0, -1), Due.BAD);
        Due.due(23, "revoke(2, 0)", x.revoke(2, 0), Due.BAD);
        Due.due(23, "revoke(-1, 0)", x.revoke(-1, 0), Due.BAD);
        Due.due(23, "revoke(0, 998)", x.revoke(0, 998), 1);
        Due.due(23, "again", x.revoke(0, 998), Due.STATE);
    }

    private static void holdsByDays() {
        PaperPocket x = new PaperPocket();
        Due.tell(x, 0, 0, 0, 10, 20, 0, 0, 0, 0);
        int[][] due = {{0, 1}, {9, 1}, {10, 0}, {20, 0}, {21, 2}, {999, 2}};
        for (int[] one : due) {
            Due.due(24, "holds on " + one[0], x.holds(0, 0, one[0]), one[1]);
        }
        x.revoke(0, 15);
        Due.due(24, "the book is older", x.holds(0, 0, 16), 0);
        x.book(0, 14);
        Due.due(24, "the book is a day too old", x.holds(0, 0, 16), 0);
        x.book(0, 15);
        Due.due(24, "the book knows", x.holds(0, 0, 16), 3);
        Due.due(24, "from that day on", x.holds(0, 0, 15), 3);
        Due.due(24, "not ahead of it", x.holds(0, 0, 14), 0);
        Due.due(24, "not yet comes first", x.holds(0, 0, 9), 1);
        Due.due(24, "over comes first", x.holds(0, 0, 21), 2);
        Due.due(24, "another door", x.holds(0, 1, 16), 0);
        int[][] wrong = {{-1, 0, 0}, {1, 0, 0}, {0, -1, 0}, {0, 4, 0}, {0, 0, -1}, {0, 0, 1000}};
        for (int[] w : wrong) {
            Due.due(24, "holds of wrong numbers", x.holds(w[0], w[1], w[2]), Due.BAD);
        }
    }

    private static void holdsByEnds() {
        PaperPocket x = new PaperPocket();
        Due.tell(x, 1, 0, 0, 10, 90, 0, 0, 0, 0);
        Due.tell(x, 2, 0, 0, 29, 90, 0, 0, 0, 0);
        Due.tell(x, 2, 0, 0, 30, 90, 0, 0, 0, 0);
        Due.tell(x, 2, 0, 0, 31, 90, 0, 0, 0, 0);
        x.close(1, 1, 40);
        x.close(2, 0, 30);
        x.book(0, 39);
        Due.due(24, "the end is not in the book", x.holds(0, 0, 50), 0);
        x.book(0, 40);
        Due.due(24, "the end", x.holds(0, 0, 50), 4);
        Due.due(24, "on its day", x.holds(0, 0, 40), 4);
        Due.due(24, "ahead of it", x.holds(0, 0, 39), 0);
        x.revoke(0, 40);
        Due.due(24, "taken back comes first", x.holds(0, 0, 40), 3);
        Due.due(24, "sealed ahead of the burning", x.holds(1, 0, 50), 0);
        Due.due(24, "sealed on that day", x.holds(2, 0, 50), 5);
        Due.due(24, "sealed behind it", x.holds(3, 0, 50), 5);
        Due.due(24, "sealed on that day, that day", x.holds(2, 0, 30), 5);
        x.book(1, 29);
        Due.due(24, "the burning is not in the book", x.holds(2, 1, 50), 0);
        x.book(1, 30);
        Due.due(24, "it is", x.holds(2, 1, 50), 5);
        x.close(2, 1, 10);
        Due.due(24, "the end comes first", x.holds(2, 1, 50), 4);
        int lasting = Due.tell(x, 3, 0, 0, 999, 999, 0, 0, 0, 0);
        x.book(2, 999);
        Due.due(24, "nothing is told against it", x.holds(lasting, 2, 999), 0);
        x.close(3, 0, 999);
        Due.due(24, "burnt on the last day", x.holds(lasting, 2, 999), 5);
        x.close(3, 1, 999);
        Due.due(24, "the end on the last day", x.holds(lasting, 2, 999), 4);
        x.revoke(lasting, 999);
        Due.due(24, "taken back on the last day", x.holds(lasting, 2, 999), 3);
    }

    private static void feed() {
        PaperPocket x = new PaperPocket();
        Due.due(25, "feed(.., 0)", x.feed(1, 0), Due.BAD);
        Due.due(25, "feed(.., 9)", x.feed(1, 9), Due.BAD);
        Due.due(25, "feed(.., -1)", x.feed(1, -1), Due.BAD);
        for (int i = 1; i <= 37; i++) {
            Due.due(25, "feed", x.feed(0x2020202020202020L, 8), 8 * i);
        }
        Due.due(25, "five of four", x.feed(0x2020202020L, 5), Due.FULL);
        Due.due(38, "count(5)", x.count(5), 296);
        Due.due(25, "three", x.feed(-1L << 24 | 0x202020, 3), 299);
        Due.due(25, "two of one", x.feed(0x2020, 2), Due.FULL);
        Due.due(25, "the last", x.feed(0x20, 1), 300);
        Due.due(25, "one more", x.feed(0x20, 1), Due.FULL);
        Due.due(25, "BAD first", x.feed(0x20, 9), Due.BAD);
        Due.due(26, "nothing but blanks", x.doors(), 0);
        Due.due(38, "count(5)", x.count(5), 0);
        // 'door 1;' in the lowest seven of eight bytes, the highest of them first.
        Due.due(25, "seven bytes", x.feed(0x7a646f6f7220313bL, 7), 7);
        Due.due(26, "a text", x.doors(), 1);
        Due.due(25, "eight bytes, the first is 'z'", x.feed(0x7a646f6f7220313bL, 8), 8);
        Due.due(26, "no text", x.doors(), -1000100);
        Due.due(27, "fault()", x.fault(), 1);
    }

    private static void texts() {
        PaperPocket x = new PaperPocket();
        Due.due(26, "none", x.doors(), 0);
        Due.due(26, "a door", Due.read(x, "door 1 from 3 field 0 over 3 999;"), 1);
        Due.due(28, "asks", x.door(1, 0), 3);
        Due.due(28, "another door", x.door(0, 0), 0);
        Due.due(26, "in place of them", Due.read(x, "door 1 from 0;"), 1);
        Due.due(28, "asks", x.door(1, 0), 1);
        Due.due(26, "nothing", Due.read(x, "\n door 1 \n;\n"), 1);
        Due.due(28, "asks", x.door(1, 0), 0);
        Due.due(26, "without blanks", Due.read(x, "door2field1over0 12;right2;door003;"), 3);
        Due.due(28, "asks", x.door(2, 0), 2);
        Due.due(28, "rights", x.door(2, 1), 0);
        Due.due(26, "one door twice", Due.read(x, "door 3 field 1 field 2;door 3 from 1;right 3 1;right 3 0 2 0;"), 4);
        Due.due(28, "the last stays", x.door(3, 0), 1);
        Due.due(28, "the last stays", x.door(3, 1), 5);
        Due.due(26, "eight asks, twice", Due.read(x, "door 0 " + "from 0 ".repeat(8) + ";door 0 " + "over 0 0 ".repeat(8) + ";"), 2);
        Due.due(28, "asks", x.door(0, 0), 8);
        Due.due(27, "fault()", x.fault(), 0);
        Due.due(26, "a fault behind texts", Due.read(x, "door 0;right 1 1;door 3;x"), -1000124);
        Due.due(28, "nothing is done", x.door(0, 0), 8);
        Due.due(28, "nothing is done", x.door(1, 1), 15);
        Due.due(38, "the tape is empty", x.count(5), 0);
        Due.due(27, "fault()", x.fault(), 1);
        Due.due(26, "a good one", Due.read(x, "right 0;"), 1);
        Due.due(27, "fault() stays", x.fault(), 1);
        Due.due(28, "door(-1, 0)", x.door(-1, 0), Due.BAD);
        Due.due(28, "door(4, 0)", x.door(4, 0), Due.BAD);
        Due.due(28, "door(0, -1)", x.door(0, -1), Due.BAD);
        Due.due(28, "door(0, 3)", x.door(0, 3), Due.BAD);
    }

    private static void faults() {
        Object[][] due = {
            {";", 0, 1}, {"5", 0, 1}, {" \nfrom", 2, 1}, {"door", 4, 1}, {"door ", 5, 1}, {"door x", 5, 1},
            {"door ;", 5, 1}, {"door 4", 5, 2}, {"door 999 #", 5, 2}, {"door 0000;", 5, 1}, {"door 0", 6, 1},
            {"door 0 1;", 7, 1}, {"door 0 right", 7, 1}, {"door 0 door", 7, 1}, {"door 0 from", 11, 1},
            {"door 0 from ;", 12, 1}, {"door 0 from 4;", 12, 2}, {"door 0 field 4", 13, 2}, {"door 0 field field", 13, 1},
            {"door 0 over 4 x", 12, 2}, {"door 0 over 0", 13, 1}, {"door 0 over 0;", 13, 1}, {"door 0 over 0 999", 17, 1},
            {"door 0 over 0 1000;", 14, 1}, {"door 0 from 1 2;", 14, 1}, {"door 0 field 1 # door 9;", 15, 1},
            {"doora 0;", 0, 1}, {"doorz 0;", 0, 1}, {"xoor 0;", 0, 1}, {"door 0 iver 0 0;", 7, 1}, {"light 0;", 0, 1},
            {"Door 0;", 0, 1}, {"doo 0;", 0, 1}, {"doors 0;", 0, 1}, {"door 0 fromm 1;", 7, 1}, {"door 0\t;", 6, 1},
            {"door 0;;", 7, 1}, {"door 0;right", 12, 1}, {"right x", 6, 1}, {"right 4;", 6, 2}, {"right 0", 7, 1},
            {"right 0 4;", 8, 2}, {"right 0 0 1 2 3 4 #", 16, 2}, {"right 0 x;", 8, 1}, {"right 0 0123;", 8, 1},
            {"right 0 from 1;", 8, 1}, {"door 0{;", 6, 1}, {"door 0`;", 6, 1}, {"door 0:;", 6, 1}, {"door 0/;", 6, 1},
            {"door 0" + (char) 233 + ";", 6, 1}, {"door -1;", 5, 1},
            {"door 0 " + "from 0 ".repeat(8) + "from 9;", 63, 3}, {"door 0 " + "from 0 ".repeat(8) + "x;", 63, 1},
            {"door 0 " + "from 0 ".repeat(8) + "1;", 63, 1}, {"door 0 " + "from 0 ".repeat(8) + "over", 63, 3},
            {"door 0 " + "from 0 ".repeat(8), 63, 1}, {"door 1;door 9;x", 12, 2},
            {"door 0 " + "\n".repeat(293), 300, 1}, {"9".repeat(300), 0, 1}, {"a".repeat(300), 0, 1},
        };
        for (Object[] one : due) {
            PaperPocket x = new PaperPocket();
            Due.due(26, "text '" + one[0] + "'", Due.read(x, (String) one[0]), -1000100 - (Integer) one[1]);
            Due.due(27, "fault of '" + one[0] + "'", x.fault(), (Integer) one[2]);
        }
    }

    private static void rights() {
        PaperPocket x = new PaperPocket();
        Due.read(x, "right 0 1 3;");
        Due.due(28, "rights", x.door(0, 1), 10);
        Due.due(28, "asks nothing", x.door(0, 2), 0);
        Due.read(x, "door 0 field 1 over 3 5 from 2;");
        Due.due(28, "asks what it may", x.door(0, 2), 0);
        Due.read(x, "door 0 field 1 over 2 0;");
        Due.due(28, "over a field that it may not", x.door(0, 2), 1);
        Due.due(28, "another door", x.door(1, 2), 0);
        Due.read(x, "right 0 1 2;");
        Due.due(28, "now it may", x.door(0, 2), 0);
        Due.read(x, "door 0 field 0;");
        Due.due(28, "a field that it may not", x.door(0, 2), 1);
        Due.due(29, "least of too much", x.least(0, 0, 0, 0), Due.NONE);
        Due.read(x, "door 0 from 0;right 0;");
        Due.due(28, "an office may always be asked", x.door(0, 2), 0);
    }

    private static void least() {
        PaperPocket x = new PaperPocket();
        Due.tell(x, 0, 0, 0, 0, 50, 900, 900, 900, 900);
        Due.tell(x, 1, 0, 0, 0, 50, 10, 0, 0, 0);
        Due.tell(x, 1, 0, 0, 0, 50, 20, 5, 0, 0);
        Due.tell(x, 1, 1, 0, 0, 50, 20, 5, 0, 0);
        Due.tell(x, 1, 0, 0, 5, 50, 10, 0, 0, 0);
        Due.due(29, "nothing asked", x.least(0, 3, 0, 0), 0);
        Due.due(29, "nothing asked", x.least(0, 3, 0, 1), 0);
        Due.read(x, "door 0 field 0;door 1 from 1 over 0 10;door 2 from 0 from 1;");
        Due.due(29, "any does", x.least(0, 0, 0, 0), 1);
        Due.due(29, "any does", x.least(0, 0, 0, 1), 2);
        Due.due(29, "of several the least number", x.least(0, 1, 9, 0), 2);
        Due.due(29, "two asks", x.least(0, 1, 9, 1), 3);
        Due.due(29, "two papers", x.least(0, 2, 9, 0), 3);
        Due.due(29, "two papers", x.least(0, 2, 9, 1), 4);
        Due.due(29, "another bearer", x.least(1, 1, 9, 0), 8);
        Due.due(29, "another bearer has none", x.least(1, 2, 9, 0), Due.NONE);
        Due.due(29, "no papers", x.least(5, 0, 9, 1), Due.NONE);
        Due.due(29, "over all", x.least(0, 0, 51, 0), Due.NONE);
        x.book(0, 9);
        x.revoke(0, 3);
        Due.due(29, "taken back at door 0", x.least(0, 0, 9, 0), 2);
        Due.due(29, "not known at door 2", x.least(0, 2, 9, 0), 3);
        // An ask told twice weighs twice; papers 0 and 2 both fit all three.
        Due.read(x, "door 2 over 0 15 over 1 5 over 0 15;");
        Due.due(29, "one paper of weight 4", x.least(0, 2, 9, 1), 4);
        Due.due(29, "its number", x.least(0, 2, 9, 0), 1);
        Due.read(x, "door 2 over 0 901;");
        Due.due(29, "too high", x.least(0, 2, 9, 0), Due.NONE);
        Due.read(x, "door 2 over 0 900;");
        Due.due(29, "just so high", x.least(0, 2, 9, 0), 1);
    }

    private static void leastRefused() {
        PaperPocket x = new PaperPocket();
        int[][] wrong = {{-1, 0, 0, 0}, {6, 0, 0, 0}, {0, -1, 0, 0}, {0, 4, 0, 0}, {0, 0, -1, 0}, {0, 0, 1000, 0}, {0, 0, 0, -1}, {0, 0, 0, 2}};
        for (int[] w : wrong) {
            Due.due(29, "least of wrong numbers", x.least(w[0], w[1], w[2], w[3]), Due.BAD);
        }
    }

    private static void seen() {
        PaperPocket x = new PaperPocket();
        Due.due(30, "no paper", x.seen(0, 0, 0), Due.BAD);
        Due.tell(x, 0, 0, 0, 0, 0, 0, 0, 0, 0);
        int[][] wrong = {{-1, 0, 0}, {4, 0, 0}, {0, -1, 0}, {0, 1, 0}, {0, 0, -1}, {0, 0, 16}};
        for (int[] w : wrong) {
            Due.due(30, "seen of wrong numbers", x.seen(w[0], w[1], w[2]), Due.BAD);
        }
        for (int i = 1; i <= 30; i++) {
            Due.due(30, "seen", x.seen(3, 0, 15), i);
        }
        Due.due(30, "the 31st", x.seen(3, 0, 15), Due.FULL);
        Due.due(30, "BAD first", x.seen(4, 0, 15), Due.BAD);
        Due.due(38, "count(4)", x.count(4), 30);
        Due.due(31, "all", x.together((1 << 30) - 1), 1);
        Due.due(31, "bit 29", x.together(1 << 29), 1);
        Due.due(31, "bit 30", x.together(1 << 30), Due.BAD);
        Due.due(31, "bit 31", x.together(1 << 31), Due.BAD);
        Due.due(31, "-1", x.together(-1), Due.BAD);
    }

    private static void together() {
        PaperPocket x = new PaperPocket();
        Due.due(31, "none seen", x.together(1), Due.BAD);
        Due.tell(x, 0, 0, 0, 0, 0, 1, 2, 3, 4);
        Due.tell(x, 0, 5, 1, 7, 9, 1, 2, 3, 5);
        Due.tell(x, 1, 3, 0, 0, 0, 1, 2, 3, 4);
        x.seen(0, 0, 0);
        x.seen(1, 0, 1);
        x.seen(2, 1, 15);
        x.seen(3, 2, 7);
        int[][] due = {{1, 33}, {2, 33}, {4, 32}, {8, 8}, {3, 33}, {5, 32}, {7, 32}, {9, 0}, {15, 0}};
        for (int[] one : due) {
            Due.due(31, "together(" + one[0] + ")", x.together(one[0]), one[1]);
        }
        Due.tell(x, 0, 3, 0, 0, 0, 1, 9, 9, 9);
        Due.due(31, "a paper told later counts", x.together(2), 41);
        Due.due(31, "by several papers of one", x.together(10), 8);
        x.revoke(3, 0);
        Due.due(31, "taken back or not", x.together(2), 41);
        Due.tell(x, 0, 2, 0, 0, 0, 9, 2, 3, 4);
        Due.due(31, "another value in field 0", x.together(2), 41);
        Due.due(31, "no field shown", x.together(1), 45);
        Due.due(31, "together(0)", x.together(0), Due.BAD);
        Due.due(31, "together(16)", x.together(16), Due.BAD);
        Due.due(31, "together(17)", x.together(17), Due.BAD);
    }

    private static void queue() {
        PaperPocket x = new PaperPocket();
        Due.fill(x, 0, 0, 50, 3, 1, 3, 1, 0, 50);
        Due.due(32, "one", x.queue(0, 0, 1, -1), 0);
        Due.due(32, "one", x.queue(0, 0, 1, 0), 0);
        // The two short ones go first although the room stands empty till 3.
        int[] order = {1, 2, 0, 3};
        for (int k = 0; k < 4; k++) {
            Due.due(32, "work " + k, x.queue(0, 0, 4, k), order[k]);
        }
        Due.due(32, "sum", x.queue(0, 0, 4, -1), 0 + 1 + 5 + 55);
        Due.due(32, "from 2 on", x.queue(0, 2, 2, -1), 1);
        Due.due(39, "status()", x.status(), 0);
        Due.fill(x, 1, 5, 7, 5, 7, 5, 7, 5, 7, 5, 7, 5, 7, 5, 7);
        for (int k = 0; k < 7; k++) {
            Due.due(32, "of several the first as a row", x.queue(1, 0, 7, k), k);
        }
        Due.due(32, "sum", x.queue(1, 0, 7, -1), 7 * 21);
        Due.fill(x, 2, 999, 99, 0, 1);
        Due.due(32, "edges", x.queue(2, 0, 2, -1), 0);
        Due.due(32, "edges", x.queue(2, 0, 2, 0), 1);
    }

    private static void queueRefused() {
        PaperPocket x = new PaperPocket();
        int[][] wrong = {{-1, 0, 1, 0}, {8, 0, 1, 0}, {0, 0, 0, -1}, {0, 0, 8, 0}, {0, 0, 1, -2}, {0, 0, 1, 1}, {0, 0, 7, 7}};
        for (int[] w : wrong) {
            Due.due(32, "queue of wrong numbers", x.queue(w[0], w[1], w[2], w[3]), Due.BAD);
        }
        Due.due(32, "missing", x.queue(0, -1, 1, 0), Due.NULL);
        Due.due(39, "status()", x.status(), 1);
        Due.fill(x, 0, 0, 0, 0);
        Due.due(32, "PLACE ahead of an item", x.queue(0, 0, 2, 0), Due.PLACE);
        Due.due(32, "PLACE", x.queue(0, 2, 1, 0), Due.PLACE);
        Due.due(32, "PLACE", x.queue(0, -1, 1, 0), Due.PLACE);
        Due.due(32, "PLACE", x.queue(0, Integer.MAX_VALUE, 1, 0), Due.PLACE);
        Due.due(39, "status()", x.status(), 2);
        int[][] pairs = {{0, 0}, {0, 100}, {-1, 1}, {1000, 1}, {5, -1}};
        for (int[] pair : pairs) {
            Due.fill(x, 0, 0, 1, pair[0], pair[1]);
            Due.due(32, "a wrong item", x.queue(0, 0, 2, 0), Due.BAD);
            Due.due(32, "not of the works", x.queue(0, 0, 1, 0), 0);
        }
    }
}
