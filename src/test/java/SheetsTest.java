/** Promises 19 and 25 to 28: surf, sheet, drop, item, copy. */
public final class SheetsTest {
    private static final Check CHECK = new Check("SheetsTest");
    private static final int LEAST = Integer.MIN_VALUE;
    private static final int MOST = Integer.MAX_VALUE;

    public static void main(String[] args) {
        surf();
        surfFaults();
        sheet();
        drop();
        item();
        itemLowestBits();
        copy();
        copyFaults();
        CHECK.close();
    }

    private static SaltPool row(int sheet, int lane, int... items) {
        SaltPool x = new SaltPool();
        fill(x, sheet, lane, items);
        return x;
    }

    private static void fill(SaltPool x, int sheet, int lane, int... items) {
        CHECK.due("sheet", x.sheet(sheet, lane, items.length), items.length);
        for (int k = 0; k < items.length; k++) {
            CHECK.due("item", x.item(sheet, lane, k, items[k]), 1);
        }
    }

    /** Only surf can tell what a sheet holds: items of 0 to 9 by the sea, -1 for all below 0. */
    private static void holds(String when, SaltPool x, int sheet, int lane, int... wanted) {
        for (int k = 0; k < wanted.length; k++) {
            CHECK.due(when + ": surf of item " + k, x.surf(30, sheet, lane, k, 1), 1);
            CHECK.due(when + ": item " + k, x.sea(30), wanted[k]);
        }
    }

    private static void surf() {
        CHECK.section("promise 19");
        SaltPool x = row(1, 1, 1, 2, 3, 4, 5);
        CHECK.due("three from 1 on", x.surf(20, 1, 1, 1, 3), 3);
        CHECK.due("sea(19)", x.sea(19), 2);
        CHECK.due("sea(20)", x.sea(20), 2);
        CHECK.due("sea(21)", x.sea(21), 3);
        CHECK.due("sea(22)", x.sea(22), 4);
        CHECK.due("sea(23)", x.sea(23), 4);
        CHECK.due("none", x.surf(20, 1, 1, 0, 0), 0);
        CHECK.due("none from the end on", x.surf(59, 1, 1, 5, 0), 0);
        CHECK.due("sea(20)", x.sea(20), 2);
        CHECK.due("the last days", x.surf(58, 1, 1, 3, 2), 2);
        CHECK.due("sea(58)", x.sea(58), 4);
        CHECK.due("sea(59)", x.sea(59), 5);
        x.item(1, 1, 0, -1);
        CHECK.due("unread again", x.surf(20, 1, 1, 0, 1), 1);
        CHECK.due("sea(20)", x.sea(20), 3);
        SaltPool y = new SaltPool();
        y.sheet(0, 0, 60);
        y.item(0, 0, 59, 9);
        CHECK.due("all days", y.surf(0, 0, 0, 0, 60), 60);
        CHECK.due("sea(58)", y.sea(58), 0);
        CHECK.due("sea(59)", y.sea(59), 9);
        CHECK.due("a row of no items", y.sheet(2, 2, 0), 0);
        CHECK.due("none of it", y.surf(0, 2, 2, 0, 0), 0);
    }

    private static void surfFaults() {
        CHECK.section("promise 19, faults");
        SaltPool x = row(1, 2, 1, 2, 10, 4, MOST);
        CHECK.due("day -1", x.surf(-1, 1, 2, 0, 1), -1);
        CHECK.due("day 60", x.surf(60, 1, 2, 0, 0), -1);
        CHECK.due("sheet -1", x.surf(0, -1, 2, 0, 1), -1);
        CHECK.due("sheet 4", x.surf(0, 4, 2, 0, 1), -1);
        CHECK.due("lane -1", x.surf(0, 1, -1, 0, 1), -1);
        CHECK.due("lane 3", x.surf(0, 1, 3, 0, 1), -1);
        CHECK.due("n -1", x.surf(0, 1, 2, 0, -1), -1);
        CHECK.due("n least", x.surf(0, 1, 2, 0, LEAST), -1);
        CHECK.due("beyond 59", x.surf(59, 1, 2, 0, 2), -1);
        CHECK.due("n most", x.surf(59, 1, 2, 0, MOST), -1);
        CHECK.due("n 61", x.surf(0, 1, 2, 0, 61), -1);
        CHECK.due("nothing", x.surf(0, 0, 2, 0, 1), -11);
        CHECK.due("nothing, none of it", x.surf(0, 0, 2, 0, 0), -11);
        CHECK.due("another lane", x.surf(0, 1, 1, 0, 1), -12);
        CHECK.due("another lane, none of it", x.surf(0, 1, 0, 0, 0), -12);
        CHECK.due("another lane and index", x.surf(0, 1, 0, -1, 1), -12);
        CHECK.due("i -1", x.surf(0, 1, 2, -1, 1), -13);
        CHECK.due("i 5", x.surf(0, 1, 2, 5, 1), -13);
        CHECK.due("i most", x.surf(0, 1, 2, MOST, 1), -13);
        CHECK.due("i least", x.surf(0, 1, 2, LEAST, 60), -13);
        CHECK.due("over the end, an item above 9 on the way", x.surf(0, 1, 2, 2, 4), -13);
        CHECK.due("an item of 10", x.surf(0, 1, 2, 0, 3), -2);
        CHECK.due("nothing is read", x.sea(0), 0);
        CHECK.due("the greatest item", x.surf(0, 1, 2, 4, 1), -2);
        CHECK.due("around it", x.surf(0, 1, 2, 0, 2), 2);
        CHECK.due("sea(1)", x.sea(1), 2);
        CHECK.due("item 3", x.surf(0, 1, 2, 3, 1), 1);
    }

    private static void sheet() {
        CHECK.section("promise 25");
        SaltPool x = new SaltPool();
        CHECK.due("sheet -1", x.sheet(-1, 0, 1), -1);
        CHECK.due("sheet 4", x.sheet(4, 0, 1), -1);
        CHECK.due("lane -1", x.sheet(0, -1, 1), -1);
        CHECK.due("lane 3", x.sheet(0, 3, 1), -1);
        CHECK.due("n 61", x.sheet(0, 0, 61), -1);
        CHECK.due("n most", x.sheet(0, 0, MOST), -1);
        CHECK.due("n -1", x.sheet(0, 0, -1), -14);
        CHECK.due("n least", x.sheet(0, 0, LEAST), -14);
        CHECK.due("BAD ahead of SIZE", x.sheet(4, 0, -1), -1);
        CHECK.due("BAD ahead of SIZE", x.sheet(0, 3, -1), -1);
        CHECK.due("still nothing", x.drop(0), -11);
        CHECK.due("n 0", x.sheet(0, 0, 0), 0);
        CHECK.due("n 60", x.sheet(3, 2, 60), 60);
        CHECK.due("drop(3)", x.drop(3), 60);
        fill(x, 1, 1, 5, 6, 7);
        CHECK.due("a size below 0 leaves the row", x.sheet(1, 1, -1), -14);
        holds("as it was", x, 1, 1, 5, 6, 7);
        CHECK.due("a new row", x.sheet(1, 1, 3), 3);
        holds("all 0", x, 1, 1, 0, 0, 0);
        fill(x, 1, 1, 5, 6, 7);
        CHECK.due("a shorter row", x.sheet(1, 1, 1), 1);
        CHECK.due("a longer row", x.sheet(1, 1, 3), 3);
        holds("all 0", x, 1, 1, 0, 0, 0);
        CHECK.due("of another lane", x.sheet(1, 2, 3), 3);
        CHECK.due("taken as it was", x.item(1, 1, 0, 0), -12);
    }

    private static void drop() {
        CHECK.section("promise 26");
        SaltPool x = row(2, 0, 1, 2, 3);
        CHECK.due("drop(-1)", x.drop(-1), -1);
        CHECK.due("drop(4)", x.drop(4), -1);
        CHECK.due("drop(1)", x.drop(1), -11);
        CHECK.due("drop(2)", x.drop(2), 3);
        CHECK.due("drop(2)", x.drop(2), -11);
        CHECK.due("item", x.item(2, 0, 0, 1), -11);
        CHECK.due("a row of no items", x.sheet(2, 1, 0), 0);
        CHECK.due("drop(2)", x.drop(2), 0);
        CHECK.due("drop(2)", x.drop(2), -11);
    }

    private static void item() {
        CHECK.section("promise 27");
        SaltPool x = row(0, 1, 1, 2, 3);
        CHECK.due("sheet -1", x.item(-1, 1, 0, 1), -1);
        CHECK.due("sheet 4", x.item(4, 1, 0, 1), -1);
        CHECK.due("lane -1", x.item(0, -1, 0, 1), -1);
        CHECK.due("lane 3", x.item(0, 3, 0, 1), -1);
        CHECK.due("BAD ahead of NULL", x.item(1, 3, 0, 1), -1);
        CHECK.due("nothing", x.item(1, 1, 0, 1), -11);
        CHECK.due("NULL ahead of INDEX", x.item(1, 1, -1, 1), -11);
        CHECK.due("lane 0", x.item(0, 0, 0, 1), -12);
        CHECK.due("lane 2", x.item(0, 2, 0, 1), -12);
        CHECK.due("CAST ahead of INDEX", x.item(0, 2, 3, 1), -12);
        CHECK.due("i -1", x.item(0, 1, -1, 1), -13);
        CHECK.due("i 3", x.item(0, 1, 3, 1), -13);
        CHECK.due("i most", x.item(0, 1, MOST, 1), -13);
        CHECK.due("i least", x.item(0, 1, LEAST, 1), -13);
        holds("as they were", x, 0, 1, 1, 2, 3);
        CHECK.due("the last", x.item(0, 1, 2, 9), 1);
        holds("the last", x, 0, 1, 1, 2, 9);
    }

    private static void itemLowestBits() {
        CHECK.section("promise 27, lowest bits");
        SaltPool x = row(0, 0, 256 + 7, 128, 255, -256 + 4, 127, MOST);
        fill(x, 1, 1, 65536 + 7, 32768, 65535, -65536 + 4, 263, 32767);
        fill(x, 2, 2, 7, 65536, 65536 + 7, LEAST, -1, MOST);
        CHECK.due("byte 7", x.surf(0, 0, 0, 0, 1), 1);
        CHECK.due("sea(0)", x.sea(0), 7);
        CHECK.due("bytes below 0", x.surf(1, 0, 0, 1, 2), 2);
        CHECK.due("byte 4", x.surf(3, 0, 0, 3, 1), 1);
        CHECK.due("sea(1)", x.sea(1), 5);
        CHECK.due("sea(3)", x.sea(3), 4);
        CHECK.due("byte 127", x.surf(0, 0, 0, 4, 1), -2);
        CHECK.due("byte of most", x.surf(3, 0, 0, 5, 1), 1);
        CHECK.due("sea(3)", x.sea(3), 7);
        CHECK.due("short 7", x.surf(0, 1, 1, 0, 1), 1);
        CHECK.due("sea(0)", x.sea(0), 7);
        CHECK.due("shorts below 0", x.surf(1, 1, 1, 1, 2), 2);
        CHECK.due("short 4", x.surf(3, 1, 1, 3, 1), 1);
        CHECK.due("sea(3)", x.sea(3), 4);
        CHECK.due("short 263", x.surf(0, 1, 1, 4, 1), -2);
        CHECK.due("short 32767", x.surf(0, 1, 1, 5, 1), -2);
        CHECK.due("int 7", x.surf(0, 2, 2, 0, 1), 1);
        CHECK.due("int 65536", x.surf(0, 2, 2, 1, 1), -2);
        CHECK.due("int 65543", x.surf(0, 2, 2, 2, 1), -2);
        CHECK.due("ints below 0", x.surf(0, 2, 2, 3, 2), 2);
        CHECK.due("int most", x.surf(0, 2, 2, 5, 1), -2);
    }

    private static void copy() {
        CHECK.section("promise 28");
        SaltPool x = row(0, 0, 1, 2, 3, 4, 5);
        fill(x, 1, 0, 9, 9, 9);
        CHECK.due("to another", x.copy(0, 1, 1, 0, 2), 2);
        holds("to", x, 1, 0, 2, 3, 9);
        holds("from", x, 0, 0, 1, 2, 3, 4, 5);
        CHECK.due("up in itself", x.copy(0, 0, 0, 1, 4), 4);
        holds("as if taken ahead", x, 0, 0, 1, 1, 2, 3, 4);
        CHECK.due("down in itself", x.copy(0, 1, 0, 0, 4), 4);
        holds("as if taken ahead", x, 0, 0, 1, 2, 3, 4, 4);
        CHECK.due("to its end", x.copy(0, 0, 1, 2, 1), 1);
        holds("to", x, 1, 0, 2, 3, 1);
        CHECK.due("none", x.copy(0, 0, 1, 0, 0), 0);
        CHECK.due("none, from the ends", x.copy(0, 5, 1, 3, 0), 0);
        holds("to", x, 1, 0, 2, 3, 1);
        fill(x, 2, 2, 7, 8);
        fill(x, 3, 2, 1, 1);
        CHECK.due("ints", x.copy(2, 0, 3, 0, 2), 2);
        holds("ints", x, 3, 2, 7, 8);
    }

    private static void copyFaults() {
        CHECK.section("promise 28, faults");
        SaltPool x = row(0, 0, 1, 2, 3);
        fill(x, 1, 0, 4, 5);
        fill(x, 2, 1, 6, 7);
        CHECK.due("from -1", x.copy(-1, 0, 0, 0, 1), -1);
        CHECK.due("from 4", x.copy(4, 0, 0, 0, 1), -1);
        CHECK.due("to -1", x.copy(0, 0, -1, 0, 1), -1);
        CHECK.due("to 4", x.copy(0, 0, 4, 0, 1), -1);
        CHECK.due("BAD ahead of NULL", x.copy(3, 0, 4, 0, 1), -1);
        CHECK.due("from nothing", x.copy(3, 0, 0, 0, 1), -11);
        CHECK.due("to nothing", x.copy(0, 0, 3, 0, 1), -11);
        CHECK.due("nothing to itself", x.copy(3, 0, 3, 0, 0), -11);
        CHECK.due("NULL ahead of INDEX", x.copy(0, -1, 3, 0, 1), -11);
        CHECK.due("unlike lanes", x.copy(0, 0, 2, 0, 1), -12);
        CHECK.due("unlike lanes, none", x.copy(2, 0, 1, 0, 0), -12);
        CHECK.due("CAST ahead of INDEX", x.copy(0, -1, 2, 0, 1), -12);
        CHECK.due("i -1", x.copy(0, -1, 1, 0, 1), -13);
        CHECK.due("j -1", x.copy(0, 0, 1, -1, 1), -13);
        CHECK.due("n -1", x.copy(0, 0, 1, 0, -1), -13);
        CHECK.due("n least", x.copy(0, 0, 1, 0, LEAST), -13);
        CHECK.due("n most", x.copy(0, 0, 1, 0, MOST), -13);
        CHECK.due("i and n most", x.copy(0, MOST, 1, 0, MOST), -13);
        CHECK.due("i most", x.copy(0, MOST, 1, 0, 1), -13);
        CHECK.due("j most", x.copy(0, 0, 1, MOST, 1), -13);
        CHECK.due("over from's end", x.copy(0, 2, 1, 0, 2), -13);
        CHECK.due("over to's end", x.copy(0, 0, 1, 0, 3), -13);
        CHECK.due("none, beyond from's end", x.copy(0, 4, 1, 0, 0), -13);
        CHECK.due("none, beyond to's end", x.copy(0, 0, 1, 3, 0), -13);
        holds("as it was", x, 1, 0, 4, 5);
        CHECK.due("a length that was is not one now", x.sheet(0, 0, 1), 1);
        CHECK.due("over the end of the shorter row", x.copy(0, 0, 1, 0, 2), -13);
    }
}
