/** "Answers below 0, of several the first that a call names": calls at which several hold at once. */
public final class FirstNamedTest {
    private static final Check CHECK = new Check("FirstNamedTest");
    private static final int BAD = -1, NOT = -2, FULL = -3, NULL = -11, CAST = -12, INDEX = -13, SIZE = -14;
    private static final int LEAST = Integer.MIN_VALUE;
    private static final int MOST = Integer.MAX_VALUE;

    public static void main(String[] args) {
        badAheadOfFull();
        lend();
        sacks();
        surfBad();
        surfFound();
        lay();
        laid();
        sheet();
        item();
        copyBad();
        copyFound();
        CHECK.close();
    }

    private static void badAheadOfFull() {
        SaltPool x = Scenes.full();
        CHECK.section("promise 2: BAD; FULL");
        CHECK.due("works(0)", x.works(0), BAD);
        CHECK.due("works(1001)", x.works(1001), BAD);
        CHECK.due("works(1000)", x.works(1000), FULL);
        CHECK.section("promise 4: BAD; FULL");
        CHECK.due("works 8", x.lot(8, 1, 1), BAD);
        CHECK.due("grade 1001", x.lot(0, 1001, 1), BAD);
        CHECK.due("0 sacks", x.lot(0, 1, 0), BAD);
        CHECK.due("all as told", x.lot(7, 1000, 10000), FULL);
        CHECK.section("promise 9: BAD; FULL");
        CHECK.due("works 8", x.shut(8, true, 0), BAD);
        CHECK.due("week 52", x.shut(0, false, 52), BAD);
        CHECK.due("all as told", x.shut(7, false, 51), FULL);
        CHECK.section("promise 13: BAD; FULL");
        CHECK.due("0 bytes", x.type(0x30L, 0), BAD);
        CHECK.due("9 bytes", x.type(0x3030303030303030L, 9), BAD);
        CHECK.due("a byte of 127", x.type(0x7FL, 1), BAD);
        CHECK.due("all as told", x.type(0x7EL, 1), FULL);
        CHECK.section("promise 15: BAD; FULL");
        CHECK.due("day 60", x.ship(60, 1, 1, 0, 0), BAD);
        CHECK.due("room 0", x.ship(0, 0, 1, 0, 0), BAD);
        CHECK.due("rate 0", x.ship(0, 1, 0, 0, 0), BAD);
        CHECK.due("lay 31", x.ship(0, 1, 1, 31, 0), BAD);
        CHECK.due("due 101", x.ship(0, 1, 1, 0, 101), BAD);
        CHECK.due("all as told", x.ship(59, 20000, 2000, 30, 100), FULL);
    }

    private static void lend() {
        CHECK.section("promise 8: BAD; NOT; FULL");
        SaltPool x = Scenes.full();
        CHECK.due("FULL alone", x.lend(3, 4, 1), FULL);
        CHECK.due("FULL alone, the most that can be lent", x.lend(3, 4, 100000), FULL);
        x.total(0);
        CHECK.due("NOT and FULL", x.lend(3, 4, 1000), NOT);
        CHECK.due("BAD, NOT and FULL: to itself", x.lend(3, 3, 1000), BAD);
        CHECK.due("BAD, NOT and FULL: to works 8", x.lend(3, 8, 1000), BAD);
        CHECK.due("BAD, NOT and FULL: 100001", x.lend(3, 4, 100001), BAD);
        x.total(1000000);
        CHECK.due("BAD and FULL: 0", x.lend(3, 4, 0), BAD);
        SaltPool y = Scenes.pool(0, 1, 1);
        CHECK.due("BAD and NOT: to itself", y.lend(0, 0, 1), BAD);
        CHECK.due("BAD and NOT: 100001", y.lend(0, 1, 100001), BAD);
        CHECK.due("BAD and NOT: the greatest int", y.lend(0, 1, MOST), BAD);
        CHECK.due("BAD and NOT: to works 2", y.lend(0, 2, 1), BAD);
        CHECK.due("NOT alone", y.lend(0, 1, 1), NOT);
    }

    private static void sacks() {
        SaltPool x = Scenes.busy();
        CHECK.section("promise 5: BAD; NOT");
        CHECK.due("0 sacks of an empty pit", x.rail(1, 0), BAD);
        CHECK.due("more than any lot has, of no lot", x.rail(3, MOST), BAD);
        CHECK.due("1 sack of an empty pit", x.rail(1, 1), NOT);
        CHECK.section("promise 16: BAD; NOT");
        CHECK.due("too many into no ship", x.load(3, 0, MOST), BAD);
        CHECK.due("too many of no lot", x.load(0, 3, MOST), BAD);
        CHECK.due("too many into no ship of no lot", x.load(-1, -1, MOST), BAD);
        x.load(2, 0, 40);
        x.load(2, 1, 10);
        x.total(0);
        CHECK.due("0 sacks: none at the port, no room, none left", x.load(2, 0, 0), BAD);
        CHECK.due("1 sack: none at the port, no room, none left", x.load(2, 0, 1), NOT);
        CHECK.due("the least int", x.load(2, 0, LEAST), BAD);
    }

    /** Sheet 3 is nothing, 0 of bytes, 2 of ints with a 12 in the end. */
    private static void surfBad() {
        CHECK.section("promise 19: BAD; ..");
        int[][] others = {{3, 0, 0, 1}, {0, 1, 0, 1}, {0, 0, 5, 1}, {0, 0, -1, 1}, {2, 2, 2, 1}, {2, 1, 2, 9}};
        for (int[] is : others) {
            SaltPool x = Scenes.busy();
            CHECK.due("day -1", x.surf(-1, is[0], is[1], is[2], is[3]), BAD);
            CHECK.due("day 60", x.surf(60, is[0], is[1], is[2], is[3]), BAD);
            CHECK.due("sheet -1", x.surf(0, -1, is[1], is[2], is[3]), BAD);
            CHECK.due("sheet 4", x.surf(0, 4, is[1], is[2], is[3]), BAD);
            CHECK.due("lane -1", x.surf(0, is[0], -1, is[2], is[3]), BAD);
            CHECK.due("lane 3", x.surf(0, is[0], 3, is[2], is[3]), BAD);
            CHECK.due("n -1", x.surf(0, is[0], is[1], is[2], -1), BAD);
            CHECK.due("n least", x.surf(0, is[0], is[1], is[2], LEAST), BAD);
            CHECK.due("a day beyond 59", x.surf(59, is[0], is[1], is[2], 2), BAD);
            CHECK.due("n greatest", x.surf(0, is[0], is[1], is[2], MOST), BAD);
        }
    }

    private static void surfFound() {
        CHECK.section("promise 19: NULL; CAST; INDEX; NOT");
        SaltPool x = Scenes.busy();
        CHECK.due("NULL and INDEX", x.surf(0, 3, 0, -1, 1), NULL);
        CHECK.due("NULL and INDEX", x.surf(0, 3, 2, 60, 1), NULL);
        CHECK.due("NULL, of none", x.surf(0, 3, 1, 0, 0), NULL);
        CHECK.due("CAST and INDEX", x.surf(0, 0, 1, -1, 1), CAST);
        CHECK.due("CAST and INDEX", x.surf(0, 0, 1, 5, 1), CAST);
        CHECK.due("CAST and NOT", x.surf(0, 2, 1, 2, 1), CAST);
        CHECK.due("CAST, INDEX and NOT", x.surf(0, 2, 0, 2, 2), CAST);
        CHECK.due("INDEX and NOT", x.surf(0, 2, 2, 2, 2), INDEX);
        CHECK.due("INDEX and NOT", x.surf(0, 2, 2, -1, 4), INDEX);
        CHECK.due("NOT alone", x.surf(0, 2, 2, 0, 3), NOT);
        x.drop(2);
        CHECK.due("NULL where a 12 was", x.surf(0, 2, 2, 2, 1), NULL);
        x.sheet(2, 2, 2);
        CHECK.due("INDEX where a 12 was", x.surf(0, 2, 2, 2, 1), INDEX);
    }

    private static void lay() {
        CHECK.section("promise 22: BAD; NOT");
        SaltPool x = Scenes.busy();
        x.bar(0);
        CHECK.due("no order of those that are there", x.lay(7), NOT);
        CHECK.due("none", x.lay(0), BAD);
        CHECK.due("one that is not there", x.lay(8), BAD);
        CHECK.due("one that is not there, and all others", x.lay(15), BAD);
        CHECK.due("the highest bit", x.lay(LEAST), BAD);
        CHECK.due("the highest bit, and one that is there", x.lay(LEAST | 1), BAD);
    }

    /** The one call that names NOT ahead of BAD. */
    private static void laid() {
        CHECK.section("promise 23: NOT; BAD");
        SaltPool x = Scenes.busy();
        CHECK.due("not among them", x.laid(2, 0), NOT);
        CHECK.due("not among them, and no such number", x.laid(2, 4), NOT);
        CHECK.due("not among them, and no such number", x.laid(2, -1), NOT);
        CHECK.due("not among them, and no such number", x.laid(2, MOST), NOT);
        CHECK.due("no such ship", x.laid(3, 0), BAD);
        CHECK.due("no such ship, no such number", x.laid(-1, 4), BAD);
        SaltPool y = new SaltPool();
        y.ship(0, 1, 1, 0, 0);
        CHECK.due("ahead of one", y.laid(0, 0), BAD);
        CHECK.due("ahead of one, no such number", y.laid(0, 4), BAD);
        CHECK.due("ahead of one, no such ship", y.laid(1, 0), BAD);
    }

    private static void sheet() {
        CHECK.section("promise 25: BAD; SIZE");
        SaltPool x = Scenes.busy();
        for (int n : new int[] {-1, LEAST}) {
            CHECK.due("sheet -1 of " + n, x.sheet(-1, 0, n), BAD);
            CHECK.due("sheet 4 of " + n, x.sheet(4, 0, n), BAD);
            CHECK.due("lane -1 of " + n, x.sheet(0, -1, n), BAD);
            CHECK.due("lane 3 of " + n, x.sheet(0, 3, n), BAD);
            CHECK.due("SIZE alone", x.sheet(0, 0, n), SIZE);
        }
        CHECK.section("promise 26: BAD; NULL");
        CHECK.due("no sheet", x.drop(4), BAD);
        CHECK.due("nothing", x.drop(3), NULL);
    }

    private static void item() {
        CHECK.section("promise 27: BAD; NULL; CAST; INDEX");
        SaltPool x = Scenes.busy();
        CHECK.due("BAD and NULL", x.item(3, 3, 0, 1), BAD);
        CHECK.due("BAD, NULL and INDEX", x.item(3, -1, -1, 1), BAD);
        CHECK.due("BAD and INDEX", x.item(0, 3, 5, 1), BAD);
        CHECK.due("BAD and INDEX", x.item(4, 0, -1, 1), BAD);
        CHECK.due("NULL and INDEX", x.item(3, 0, -1, 1), NULL);
        CHECK.due("NULL and INDEX", x.item(3, 2, 60, 1), NULL);
        CHECK.due("CAST and INDEX", x.item(0, 2, -1, 1), CAST);
        CHECK.due("CAST and INDEX", x.item(0, 2, 5, 1), CAST);
        CHECK.due("CAST and INDEX", x.item(2, 1, MOST, 1), CAST);
        CHECK.due("INDEX alone", x.item(2, 2, MOST, 1), INDEX);
        x.sheet(3, 1, 0);
        CHECK.due("CAST, of no items", x.item(3, 0, 0, 1), CAST);
        CHECK.due("INDEX, of no items", x.item(3, 1, 0, 1), INDEX);
    }

    private static void copyBad() {
        CHECK.section("promise 28: BAD; ..");
        SaltPool x = Scenes.busy();
        for (int other = -1; other <= 4; other++) {
            for (int wrong : new int[] {-1, 4, LEAST, MOST}) {
                CHECK.due("BAD and whatever " + other + " is", x.copy(wrong, -1, other, 0, 1), BAD);
                CHECK.due("BAD and whatever " + other + " is", x.copy(other, 0, wrong, -1, -1), BAD);
            }
        }
    }

    private static void copyFound() {
        CHECK.section("promise 28: NULL (either); CAST; INDEX");
        SaltPool x = Scenes.busy();
        for (int other = 0; other < 3; other++) {
            CHECK.due("NULL from, and INDEX", x.copy(3, -1, other, 0, 1), NULL);
            CHECK.due("NULL to, and INDEX", x.copy(other, -1, 3, 0, 1), NULL);
            CHECK.due("NULL to, and INDEX", x.copy(other, 0, 3, 0, -1), NULL);
            CHECK.due("NULL from, none", x.copy(3, 0, other, 0, 0), NULL);
            CHECK.due("NULL to, none", x.copy(other, 0, 3, 0, 0), NULL);
        }
        CHECK.due("both NULL", x.copy(3, 0, 3, 0, 0), NULL);
        CHECK.due("both NULL, and INDEX", x.copy(3, -1, 3, -1, -1), NULL);
        CHECK.due("CAST and INDEX", x.copy(0, -1, 1, 0, 1), CAST);
        CHECK.due("CAST and INDEX", x.copy(1, 0, 2, -1, 1), CAST);
        CHECK.due("CAST and INDEX", x.copy(2, 0, 0, 0, -1), CAST);
        CHECK.due("CAST and INDEX", x.copy(2, 0, 1, 0, 60), CAST);
        CHECK.due("CAST, none", x.copy(1, 0, 0, 0, 0), CAST);
        CHECK.due("INDEX of both", x.copy(0, 5, 0, 5, 1), INDEX);
    }
}
