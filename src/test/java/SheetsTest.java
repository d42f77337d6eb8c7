/** Promises 1 to 5, and what status says of them. */
public final class SheetsTest {
    public static void main(String[] args) {
        aNewObject();
        sheet();
        set();
        copy();
        drop();
        Due.end();
    }

    private static void aNewObject() {
        PaperPocket x = new PaperPocket();
        for (int what = 0; what < 6; what++) {
            Due.due(1, "count(" + what + ")", x.count(what), 0);
        }
        Due.due(1, "status()", x.status(), 0);
        Due.due(1, "fault()", x.fault(), 0);
        Due.due(1, "trace(0)", x.trace(0), Due.NONE);
        for (int sheet = 0; sheet < 8; sheet++) {
            Due.due(1, "set of a missing one", x.set(sheet, 0, 1), Due.NULL);
        }
        for (int office = 0; office < 4; office++) {
            Due.due(1, "keyOn", x.keyOn(office, 0), 100 + office);
            Due.due(1, "keyOn", x.keyOn(office, 999), 100 + office);
            Due.due(1, "close", x.close(office, 0, 0), 1);
            Due.due(1, "close", x.close(office, 1, 0), 1);
        }
        int[] signs = {16, 17, 21, 37, 7, 28};
        for (int bearer = 0; bearer < 6; bearer++) {
            Due.due(1, "secret", x.secret(bearer, 0), signs[bearer]);
        }
        for (int door = 0; door < 4; door++) {
            Due.due(1, "door 0", x.door(door, 0), 0);
            Due.due(1, "door 1", x.door(door, 1), 15);
            Due.due(1, "door 2", x.door(door, 2), 0);
            Due.due(1, "book", x.book(door, 3), 0);
        }
        Due.due(1, "day(7)", x.day(7), 0);
    }

    private static void sheet() {
        PaperPocket x = new PaperPocket();
        Due.due(2, "sheet(0, 0, 0)", x.sheet(0, 0, 0), 0);
        Due.due(2, "sheet(7, 2, 60)", x.sheet(7, 2, 60), 60);
        Due.due(2, "count(0)", x.count(0), 2);
        Due.due(2, "sheet(8, 0, 0)", x.sheet(8, 0, 0), Due.BAD);
        Due.due(2, "sheet(-1, 0, 0)", x.sheet(-1, 0, 0), Due.BAD);
        Due.due(2, "sheet(1, 3, 0)", x.sheet(1, 3, 0), Due.BAD);
        Due.due(2, "sheet(1, -1, 0)", x.sheet(1, -1, 0), Due.BAD);
        Due.due(2, "sheet(1, 0, 61)", x.sheet(1, 0, 61), Due.BAD);
        Due.due(2, "sheet(8, 0, -1)", x.sheet(8, 0, -1), Due.BAD);
        Due.due(2, "sheet(1, 3, -1)", x.sheet(1, 3, -1), Due.BAD);
        Due.due(39, "status()", x.status(), 0);
        Due.due(2, "sheet(7, 0, -1)", x.sheet(7, 0, -1), Due.SIZE);
        Due.due(39, "status()", x.status(), 4);
        Due.due(2, "sheet(7, 0, 61)", x.sheet(7, 0, 61), Due.BAD);
        Due.due(39, "status() stays behind BAD", x.status(), 4);
        Due.due(2, "the sheet is as it was", x.set(7, 59, 70000), 70000);
        Due.due(39, "status()", x.status(), 0);
        Due.due(2, "sheet(7, 0, 3)", x.sheet(7, 0, 3), 3);
        Due.due(2, "its lane is another", x.set(7, 2, 300), 44);
        Due.due(2, "it has no more", x.set(7, 3, 1), Due.PLACE);
        x.sheet(6, 0, 9);
        x.copy(7, 2, 6, 0, 1);
        x.sheet(6, 0, 9);
        Due.due(2, "a new sheet has zeros, a paper of them", x.paper(6, 0), 0);
        for (int what : new int[] {0, 1, 2, 3, 8, 9, 10, 11}) {
            Due.due(2, "told(0, " + what + ")", x.told(0, what), 0);
        }
    }

    private static void set() {
        PaperPocket x = new PaperPocket();
        for (int lane = 0; lane < 3; lane++) {
            x.sheet(lane, lane, 2);
        }
        int[] values = {0, 1, -1, 127, 128, 255, 256, 32767, 32768, 65535, 65536, -129, -32769, Integer.MAX_VALUE, Integer.MIN_VALUE};
        for (int v : values) {
            Due.due(3, "set of bytes " + v, x.set(0, 1, v), (byte) v);
            Due.due(3, "set of shorts " + v, x.set(1, 1, v), (short) v);
            Due.due(3, "set of ints " + v, x.set(2, 1, v), v);
        }
        Due.due(3, "set(8, 0, 0)", x.set(8, 0, 0), Due.BAD);
        Due.due(3, "set(-1, 0, 0)", x.set(-1, 0, 0), Due.BAD);
        Due.due(3, "set(3, 0, 0)", x.set(3, 0, 0), Due.NULL);
        Due.due(39, "status()", x.status(), 1);
        Due.due(3, "set(3, -1, 0)", x.set(3, -1, 0), Due.NULL);
        Due.due(3, "set(0, 2, 0)", x.set(0, 2, 0), Due.PLACE);
        Due.due(3, "set(0, -1, 0)", x.set(0, -1, 0), Due.PLACE);
        Due.due(39, "status()", x.status(), 2);
        Due.due(3, "set(0, MAX, 0)", x.set(0, Integer.MAX_VALUE, 0), Due.PLACE);
        Due.due(3, "set(0, MIN, 0)", x.set(0, Integer.MIN_VALUE, 0), Due.PLACE);
        x.set(8, 0, 0);
        Due.due(39, "status() stays behind BAD", x.status(), 2);
    }

    private static void copy() {
        PaperPocket x = new PaperPocket();
        Due.fill(x, 0, 0, 1, 2, 3, 4, 5, 6, 7, 8, 9);
        Due.due(4, "copy upwards over itself", x.copy(0, 0, 0, 1, 9), 9);
        // Now 0 0 1 2 3 4 5 6 7 8: a paper of office 0, bearer 0, sort 1, first 2, last 3 and fields 4 to 7.
        Due.due(4, "paper", x.paper(0, 0), 0);
        Due.due(4, "told(0, 10)", x.told(0, 10), 2);
        Due.due(4, "told(0, 3)", x.told(0, 3), 7);
        Due.due(4, "copy downwards over itself", x.copy(0, 1, 0, 0, 9), 9);
        Due.due(4, "paper", x.paper(0, 0), 1);
        Due.due(4, "told(1, 9)", x.told(1, 9), 1);
        Due.due(4, "told(1, 3)", x.told(1, 3), 8);
        Due.fill(x, 1, 3, 2, 1);
        Due.due(4, "copy to another", x.copy(1, 1, 0, 8, 2), 2);
        Due.due(4, "paper", x.paper(0, 1), 2);
        Due.due(4, "told(2, 3)", x.told(2, 3), 1);
        Due.due(4, "told(2, 2)", x.told(2, 2), 2);
        Due.due(4, "copy of none at the ends", x.copy(0, 10, 1, 3, 0), 0);
        Due.due(39, "status()", x.status(), 0);
        copyRefused(x);
    }

    private static void copyRefused(PaperPocket x) {
        int max = Integer.MAX_VALUE;
        Due.due(4, "copy(8, ..)", x.copy(8, 0, 0, 0, 0), Due.BAD);
        Due.due(4, "copy to -1", x.copy(0, 0, -1, 0, 0), Due.BAD);
        Due.due(4, "a missing, b wrong", x.copy(5, 0, 8, 0, 0), Due.BAD);
        Due.due(4, "a missing", x.copy(5, 0, 0, 0, 0), Due.NULL);
        Due.due(4, "b missing", x.copy(0, -1, 5, 0, 0), Due.NULL);
        x.sheet(2, 0, 4);
        Due.due(4, "two lanes, and no such place", x.copy(0, -1, 2, 0, -1), Due.STORE);
        Due.due(39, "status()", x.status(), 5);
        Due.due(4, "two lanes, none", x.copy(0, 0, 2, 0, 0), Due.STORE);
        Due.due(4, "i below 0", x.copy(0, -1, 1, 0, 1), Due.PLACE);
        Due.due(39, "status()", x.status(), 2);
        Due.due(4, "j below 0", x.copy(0, 0, 1, -1, 1), Due.PLACE);
        Due.due(4, "n below 0", x.copy(0, 1, 1, 1, -1), Due.PLACE);
        Due.due(4, "beyond a's end", x.copy(1, 2, 0, 0, 2), Due.PLACE);
        Due.due(4, "beyond b's end", x.copy(0, 0, 1, 2, 2), Due.PLACE);
        Due.due(4, "i beyond, of none", x.copy(0, 11, 1, 0, 0), Due.PLACE);
        Due.due(4, "numbers that wrap", x.copy(0, max, 1, 0, max), Due.PLACE);
        Due.due(4, "numbers that wrap", x.copy(0, 1, 1, 1, max), Due.PLACE);
        Due.due(4, "numbers that wrap", x.copy(0, 0, 1, Integer.MIN_VALUE, Integer.MIN_VALUE), Due.PLACE);
    }

    private static void drop() {
        PaperPocket x = new PaperPocket();
        x.sheet(3, 1, 17);
        x.sheet(4, 1, 0);
        Due.due(5, "drop(3)", x.drop(3), 17);
        Due.due(5, "drop(3) again", x.drop(3), Due.NULL);
        Due.due(39, "status()", x.status(), 1);
        Due.due(5, "drop(4)", x.drop(4), 0);
        Due.due(39, "status()", x.status(), 0);
        Due.due(5, "count(0)", x.count(0), 0);
        Due.due(5, "set of it", x.set(3, 0, 0), Due.NULL);
        Due.due(5, "drop(8)", x.drop(8), Due.BAD);
        Due.due(5, "drop(-1)", x.drop(-1), Due.BAD);
    }
}
