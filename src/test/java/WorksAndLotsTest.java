/** Promises 1 to 6 and 24: a new object, works, weeks, lot, rail, told, count. */
public final class WorksAndLotsTest {
    private static final Check CHECK = new Check("WorksAndLotsTest");
    private static final int LEAST = Integer.MIN_VALUE;
    private static final int MOST = Integer.MAX_VALUE;

    public static void main(String[] args) {
        newObject();
        works();
        weeks();
        lot();
        rail();
        told();
        count();
        CHECK.close();
    }

    private static void newObject() {
        CHECK.section("promise 1");
        SaltPool x = new SaltPool();
        for (int what = 0; what <= 7; what++) {
            CHECK.due("count(" + what + ")", x.count(what), 0);
        }
        CHECK.due("total(0)", x.total(0), 0);
        CHECK.due("bar(5)", x.bar(5), 5);
        CHECK.due("parts()", x.parts(), -20);
        CHECK.due("type", x.type('0', 1), 1);
        CHECK.due("told(0, 0)", x.told(0, 0), -1);
        CHECK.due("left(0)", x.left(0), -1);
        CHECK.due("held(0, -1)", x.held(0, -1), -1);
        CHECK.due("grade(0)", x.grade(0), -1);
        CHECK.due("lay(1)", x.lay(1), -1);
        CHECK.due("laid(0, 0)", x.laid(0, 0), -1);
        for (int day = 0; day < 60; day++) {
            CHECK.due("sea(" + day + ")", x.sea(day), 0);
        }
        for (int sheet = 0; sheet < 4; sheet++) {
            CHECK.due("drop(" + sheet + ")", x.drop(sheet), -11);
        }
        x.works(3);
        CHECK.due("another object's count(0)", new SaltPool().count(0), 0);
    }

    private static void works() {
        CHECK.section("promise 2");
        SaltPool x = new SaltPool();
        CHECK.due("works(0)", x.works(0), -1);
        CHECK.due("works(1001)", x.works(1001), -1);
        CHECK.due("works(least)", x.works(LEAST), -1);
        CHECK.due("works(most)", x.works(MOST), -1);
        CHECK.due("count(0)", x.count(0), 0);
        for (int w = 0; w < 8; w++) {
            CHECK.due("works of " + w, x.works(w % 2 == 0 ? 1 : 1000), w);
        }
        CHECK.due("a ninth", x.works(1), -3);
        CHECK.due("a bad ninth", x.works(0), -1);
        CHECK.due("count(0)", x.count(0), 8);
        x.total(4004);
        CHECK.due("share of part 1", x.quota(0, 0, 0), 1);
        CHECK.due("share of part 1000", x.quota(7, 0, 0), 1000);
    }

    private static void weeks() {
        CHECK.section("promise 3");
        SaltPool x = new SaltPool();
        CHECK.due("weeks(-1)", x.weeks(-1), -1);
        CHECK.due("weeks(52)", x.weeks(52), -1);
        CHECK.due("weeks(most)", x.weeks(MOST), -1);
        CHECK.due("weeks(least)", x.weeks(LEAST), -1);
        CHECK.due("weeks(0)", x.weeks(0), 0);
        CHECK.due("weeks(50)", x.weeks(50), 50);
        CHECK.due("weeks(2)", x.weeks(2), -1);
        CHECK.due("weeks(most)", x.weeks(MOST), -1);
        CHECK.due("weeks(1)", x.weeks(1), 51);
        CHECK.due("weeks(1)", x.weeks(1), -1);
        CHECK.due("weeks(0)", x.weeks(0), 51);
        CHECK.due("count(4)", x.count(4), 51);
        CHECK.due("weeks(51) at once", new SaltPool().weeks(51), 51);
    }

    private static void lot() {
        CHECK.section("promise 4");
        SaltPool x = new SaltPool();
        CHECK.due("no works", x.lot(0, 0, 1), -1);
        x.works(1);
        CHECK.due("works -1", x.lot(-1, 0, 1), -1);
        CHECK.due("works 1", x.lot(1, 0, 1), -1);
        CHECK.due("grade -1", x.lot(0, -1, 1), -1);
        CHECK.due("grade 1001", x.lot(0, 1001, 1), -1);
        CHECK.due("sacks 0", x.lot(0, 0, 0), -1);
        CHECK.due("sacks 10001", x.lot(0, 0, 10001), -1);
        CHECK.due("sacks least", x.lot(0, 0, LEAST), -1);
        CHECK.due("count(1)", x.count(1), 0);
        for (int lot = 0; lot < 60; lot++) {
            CHECK.due("lot " + lot, x.lot(0, lot % 2 * 1000, lot % 2 == 0 ? 1 : 10000), lot);
        }
        CHECK.due("a lot too many", x.lot(0, 0, 1), -3);
        CHECK.due("a bad lot too many", x.lot(0, 0, 0), -1);
        CHECK.due("count(1)", x.count(1), 60);
        CHECK.due("count(5)", x.count(5), 30 * 10001);
        CHECK.due("told(59, 2)", x.told(59, 2), 10000);
        CHECK.due("told(60, 2)", x.told(60, 2), -1);
    }

    private static void rail() {
        CHECK.section("promise 5");
        SaltPool x = new SaltPool();
        x.works(1);
        CHECK.due("no lot", x.rail(0, 1), -1);
        x.lot(0, 5, 10);
        x.lot(0, 5, 3);
        CHECK.due("lot -1", x.rail(-1, 1), -1);
        CHECK.due("lot 2", x.rail(2, 1), -1);
        CHECK.due("0 sacks", x.rail(0, 0), -1);
        CHECK.due("-1 sacks", x.rail(0, -1), -1);
        CHECK.due("least sacks", x.rail(0, LEAST), -1);
        CHECK.due("11 of 10", x.rail(0, 11), -2);
        CHECK.due("most of 10", x.rail(0, MOST), -2);
        CHECK.due("count(6)", x.count(6), 0);
        CHECK.due("1 of 10", x.rail(0, 1), 9);
        CHECK.due("4 of 9", x.rail(0, 4), 5);
        CHECK.due("6 of 5", x.rail(0, 6), -2);
        CHECK.due("5 of 5", x.rail(0, 5), 0);
        CHECK.due("1 of 0", x.rail(0, 1), -2);
        CHECK.due("told(0, 3)", x.told(0, 3), 10);
        CHECK.due("told(1, 2)", x.told(1, 2), 3);
        CHECK.due("told(1, 3)", x.told(1, 3), 0);
    }

    private static void told() {
        CHECK.section("promise 6");
        SaltPool x = new SaltPool();
        x.works(1);
        x.works(2);
        x.total(300);
        x.weeks(7);
        x.lot(1, 640, 50);
        x.weeks(2);
        x.lot(0, 0, 9);
        x.ship(0, 100, 1, 0, 0);
        x.ship(0, 100, 1, 0, 0);
        x.rail(0, 30);
        x.load(0, 0, 12);
        x.load(1, 0, 5);
        int[][] wanted = {{1, 640, 20, 13, 17, 7}, {0, 0, 9, 0, 0, 9}};
        for (int lot = 0; lot < 2; lot++) {
            for (int what = 0; what < 6; what++) {
                CHECK.due("told(" + lot + ", " + what + ")", x.told(lot, what), wanted[lot][what]);
            }
            CHECK.due("told(" + lot + ", -1)", x.told(lot, -1), -1);
            CHECK.due("told(" + lot + ", 6)", x.told(lot, 6), -1);
        }
        CHECK.due("told(-1, 0)", x.told(-1, 0), -1);
        CHECK.due("told(2, 0)", x.told(2, 0), -1);
        CHECK.due("told(most, 0)", x.told(MOST, 0), -1);
    }

    private static void count() {
        CHECK.section("promise 24");
        SaltPool x = new SaltPool();
        x.works(1);
        x.works(1);
        x.works(1);
        x.total(900);
        x.lot(0, 1, 100);
        x.lot(2, 1, 70);
        x.shut(1, true, 40);
        x.shut(1, false, 41);
        x.shut(1, true, 42);
        x.shut(1, true, 43);
        x.weeks(6);
        for (int ship = 0; ship < 5; ship++) {
            x.ship(0, 100, 1, 0, 0);
        }
        x.rail(0, 60);
        x.rail(1, 20);
        x.load(4, 0, 33);
        x.load(0, 1, 2);
        int[] wanted = {3, 2, 4, 5, 6, 90, 45, 35};
        for (int what = 0; what < 8; what++) {
            CHECK.due("count(" + what + ")", x.count(what), wanted[what]);
        }
        CHECK.due("count(-1)", x.count(-1), -1);
        CHECK.due("count(8)", x.count(8), -1);
        CHECK.due("count(least)", x.count(LEAST), -1);
    }
}
