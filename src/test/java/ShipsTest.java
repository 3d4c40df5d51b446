/** Promises 15 to 18 and 20 to 23: ship, load, held, grade, sea, bar, lay, laid. */
public final class ShipsTest {
    private static final Check CHECK = new Check("ShipsTest");
    private static final int LEAST = Integer.MIN_VALUE;
    private static final int MOST = Integer.MAX_VALUE;

    public static void main(String[] args) {
        ship();
        load();
        loadNot();
        held();
        grade();
        sea();
        bar();
        layOne();
        layOrders();
        layTies();
        laySurf();
        layNone();
        laid();
        CHECK.close();
    }

    private static void ship() {
        CHECK.section("promise 15");
        SaltPool x = new SaltPool();
        CHECK.due("day -1", x.ship(-1, 1, 1, 0, 0), -1);
        CHECK.due("day 60", x.ship(60, 1, 1, 0, 0), -1);
        CHECK.due("room 0", x.ship(0, 0, 1, 0, 0), -1);
        CHECK.due("room 20001", x.ship(0, 20001, 1, 0, 0), -1);
        CHECK.due("rate 0", x.ship(0, 1, 0, 0, 0), -1);
        CHECK.due("rate 2001", x.ship(0, 1, 2001, 0, 0), -1);
        CHECK.due("lay -1", x.ship(0, 1, 1, -1, 0), -1);
        CHECK.due("lay 31", x.ship(0, 1, 1, 31, 0), -1);
        CHECK.due("due -1", x.ship(0, 1, 1, 0, -1), -1);
        CHECK.due("due 101", x.ship(0, 1, 1, 0, 101), -1);
        CHECK.due("all least", x.ship(LEAST, LEAST, LEAST, LEAST, LEAST), -1);
        CHECK.due("count(3)", x.count(3), 0);
        CHECK.due("the least of all", x.ship(0, 1, 1, 0, 0), 0);
        CHECK.due("the most of all", x.ship(59, 20000, 2000, 30, 100), 1);
        for (int ship = 2; ship < 6; ship++) {
            CHECK.due("ship " + ship, x.ship(ship, 10, 1, 1, 1), ship);
        }
        CHECK.due("a seventh", x.ship(0, 1, 1, 0, 0), -3);
        CHECK.due("a bad seventh", x.ship(60, 1, 1, 0, 0), -1);
        CHECK.due("count(3)", x.count(3), 6);
    }

    /** Works 0 and 1 with 500 each; lots 0 (works 0) and 1 (works 1), 400 each at the port; ships of 450 and 20. */
    private static SaltPool port() {
        SaltPool x = new SaltPool();
        x.works(1);
        x.works(1);
        x.total(1000);
        x.lot(0, 100, 410);
        x.lot(1, 900, 400);
        x.rail(0, 400);
        x.rail(1, 400);
        x.ship(0, 450, 10, 0, 0);
        x.ship(0, 20, 10, 0, 0);
        return x;
    }

    private static void load() {
        CHECK.section("promise 16");
        SaltPool x = port();
        CHECK.due("ship -1", x.load(-1, 0, 1), -1);
        CHECK.due("ship 2", x.load(2, 0, 1), -1);
        CHECK.due("lot -1", x.load(0, -1, 1), -1);
        CHECK.due("lot 2", x.load(0, 2, 1), -1);
        CHECK.due("0 sacks", x.load(0, 0, 0), -1);
        CHECK.due("least sacks", x.load(0, 0, LEAST), -1);
        CHECK.due("most sacks", x.load(0, 0, MOST), -2);
        CHECK.due("count(7)", x.count(7), 0);
        CHECK.due("1", x.load(0, 0, 1), 1);
        CHECK.due("9 more", x.load(0, 0, 9), 10);
        CHECK.due("of another lot", x.load(0, 1, 30), 30);
        CHECK.due("into another ship", x.load(1, 0, 5), 5);
        CHECK.due("told(0, 3)", x.told(0, 3), 385);
        CHECK.due("told(0, 4)", x.told(0, 4), 15);
        CHECK.due("told(1, 3)", x.told(1, 3), 370);
        CHECK.due("left(0)", x.left(0), 485);
        CHECK.due("left(1)", x.left(1), 470);
    }

    private static void loadNot() {
        CHECK.section("promise 16, not");
        SaltPool x = port();
        CHECK.due("more than at the port", x.load(0, 0, 401), -2);
        CHECK.due("more than room", x.load(1, 0, 21), -2);
        CHECK.due("all room", x.load(1, 0, 20), 20);
        CHECK.due("no room", x.load(1, 1, 1), -2);
        CHECK.due("the rest at the port", x.load(0, 0, 380), 380);
        CHECK.due("none at the port", x.load(0, 0, 1), -2);
        CHECK.due("from the pit first", x.rail(0, 10), 0);
        x.total(818);
        CHECK.due("left(0)", x.left(0), 9);
        CHECK.due("beyond left", x.load(0, 0, 10), -2);
        CHECK.due("all that is left", x.load(0, 0, 9), 389);
        CHECK.due("nothing left", x.load(0, 0, 1), -2);
        CHECK.due("told(0, 3)", x.told(0, 3), 1);
        x.shut(1, true, 0);
        CHECK.due("shut works", x.load(0, 1, 1), -2);
        x.shut(1, false, 0);
        CHECK.due("lent away", x.lend(1, 0, 409), 2);
        CHECK.due("all lent", x.load(0, 1, 1), -2);
        CHECK.due("the other may", x.load(0, 0, 1), 390);
        CHECK.due("held", x.held(0, -1), 390);
    }

    private static void held() {
        CHECK.section("promise 17");
        SaltPool x = port();
        CHECK.due("ship -1", x.held(-1, 0), -1);
        CHECK.due("ship 2", x.held(2, -1), -1);
        CHECK.due("lot -2", x.held(0, -2), -1);
        CHECK.due("lot 2", x.held(0, 2), -1);
        CHECK.due("nothing", x.held(0, 0), 0);
        CHECK.due("nothing at all", x.held(0, -1), 0);
        x.load(0, 0, 7);
        x.load(0, 1, 8);
        x.load(1, 1, 9);
        CHECK.due("held(0, 0)", x.held(0, 0), 7);
        CHECK.due("held(0, 1)", x.held(0, 1), 8);
        CHECK.due("held(0, -1)", x.held(0, -1), 15);
        CHECK.due("held(1, 0)", x.held(1, 0), 0);
        CHECK.due("held(1, 1)", x.held(1, 1), 9);
        CHECK.due("held(1, -1)", x.held(1, -1), 9);
    }

    private static void grade() {
        CHECK.section("promise 18");
        SaltPool x = port();
        CHECK.due("ship -1", x.grade(-1), -1);
        CHECK.due("ship 2", x.grade(2), -1);
        CHECK.due("empty", x.grade(0), -2);
        x.load(0, 0, 3);
        CHECK.due("one lot", x.grade(0), 100);
        CHECK.due("the other is empty", x.grade(1), -2);
        x.load(0, 1, 4);
        // (3 * 100 + 4 * 900) / 7 = 557.1
        CHECK.due("cut down", x.grade(0), 557);
        x.load(0, 1, 1);
        CHECK.due("by sacks", x.grade(0), 600);
        x.load(1, 1, 2);
        CHECK.due("of its own hold", x.grade(1), 900);
        SaltPool y = new SaltPool();
        y.works(1);
        y.total(1000000);
        y.ship(0, 20000, 1, 0, 0);
        for (int lot = 0; lot < 2; lot++) {
            y.lot(0, 1000, 10000);
            y.rail(lot, 10000);
            y.load(0, lot, 10000);
        }
        CHECK.due("the most of all", y.grade(0), 1000);
        SaltPool z = new SaltPool();
        z.works(1);
        z.total(10);
        z.lot(0, 0, 1);
        z.rail(0, 1);
        z.ship(0, 1, 1, 0, 0);
        z.load(0, 0, 1);
        CHECK.due("a grade of 0 is not empty", z.grade(0), 0);
        gradeOfFull();
    }

    private static void gradeOfFull() {
        SaltPool x = new SaltPool();
        x.works(1);
        x.total(1000);
        for (int lot = 0; lot < 60; lot++) {
            x.lot(0, lot, 4);
            x.rail(lot, 4);
        }
        for (int ship = 0; ship < 6; ship++) {
            x.ship(0, 100, 1, 0, 0);
        }
        x.load(0, 59, 1);
        x.load(1, 0, 2);
        x.load(5, 59, 1);
        x.load(5, 0, 2);
        CHECK.due("the last lot, and none of the next ship's", x.grade(0), 59);
        CHECK.due("the last ship", x.grade(5), 19);
        CHECK.due("held(5, 59)", x.held(5, 59), 1);
        CHECK.due("held(0, 0)", x.held(0, 0), 0);
        CHECK.due("held(1, 0)", x.held(1, 0), 2);
    }

    /** Reads surf from a day on through sheet 3; below 0 is unread. */
    private static void read(SaltPool x, int day, int... surf) {
        x.sheet(3, 2, surf.length);
        for (int k = 0; k < surf.length; k++) {
            x.item(3, 2, k, surf[k]);
        }
        CHECK.due("surf(" + day + ", ..)", x.surf(day, 3, 2, 0, surf.length), surf.length);
    }

    private static void seas(SaltPool x, int day, int... wanted) {
        for (int k = 0; k < wanted.length; k++) {
            CHECK.due("sea(" + (day + k) + ")", x.sea(day + k), wanted[k]);
        }
    }

    private static void sea() {
        CHECK.section("promise 20");
        SaltPool x = new SaltPool();
        CHECK.due("sea(-1)", x.sea(-1), -1);
        CHECK.due("sea(60)", x.sea(60), -1);
        CHECK.due("sea(most)", x.sea(MOST), -1);
        seas(x, 0, 0, 0);
        read(x, 10, 7);
        seas(x, 0, 7, 7);
        seas(x, 9, 7, 7, 7);
        seas(x, 59, 7);
        read(x, 14, 2);
        seas(x, 0, 7);
        seas(x, 10, 7, 4, 4, 4, 2, 2);
        read(x, 12, 9, 0);
        seas(x, 10, 7, 8, 9, 0, 2);
        read(x, 12, -1, -5);
        seas(x, 10, 7, 4, 4, 4, 2);
        read(x, 0, 0);
        seas(x, 0, 0, 3);
        read(x, 59, 9);
        seas(x, 14, 2, 5);
        seas(x, 58, 5, 9);
        read(x, 10, -1, -1, -1, -1, -1);
        read(x, 0, -1);
        seas(x, 0, 9, 9);
        read(x, 59, -1);
        seas(x, 0, 0);
        seas(x, 59, 0);
    }

    private static void bar() {
        CHECK.section("promise 21");
        SaltPool x = new SaltPool();
        CHECK.due("bar(-1)", x.bar(-1), -1);
        CHECK.due("bar(10)", x.bar(10), -1);
        CHECK.due("bar(0)", x.bar(0), 5);
        CHECK.due("bar(9)", x.bar(9), 0);
        CHECK.due("bar(least)", x.bar(LEAST), -1);
        CHECK.due("bar(4)", x.bar(4), 9);
        x.ship(0, 3, 1, 0, 1);
        read(x, 0, 4, 5, 4, 4);
        CHECK.due("surf of bar lets load, above it not", x.lay(1), 4);
        x.bar(5);
        CHECK.due("a higher bar", x.lay(1), 3);
    }

    private static void layOne() {
        CHECK.section("promise 22, one ship");
        SaltPool x = new SaltPool();
        x.ship(10, 100, 30, 0, 7);
        x.ship(10, 90, 30, 0, 7);
        x.ship(10, 100, 30, 4, 7);
        x.ship(10, 100, 30, 3, 7);
        x.ship(59, 20000, 1, 30, 100);
        x.ship(58, 3, 1, 0, 100);
        CHECK.due("4 days, cut up", x.lay(1), 28);
        CHECK.due("laid(0, 1)", x.laid(0, 1), 10);
        CHECK.due("laid(0, 2)", x.laid(0, 2), 13);
        CHECK.due("3 days", x.lay(2), 21);
        CHECK.due("laid(1, 2)", x.laid(1, 2), 12);
        CHECK.due("within lay", x.lay(4), 0);
        CHECK.due("a day beyond", x.lay(8), 7);
        CHECK.due("far beyond 59", x.lay(16), 1997000);
        CHECK.due("laid(4, 2)", x.laid(4, 2), 20058);
        CHECK.due("just beyond 59", x.lay(32), 300);
        CHECK.due("laid(5, 2)", x.laid(5, 2), 60);
        CHECK.due("lay(0)", x.lay(0), -1);
        CHECK.due("lay(-1)", x.lay(-1), -1);
        CHECK.due("lay(64)", x.lay(64), -1);
        CHECK.due("lay(least)", x.lay(LEAST), -1);
        CHECK.due("lay(most)", x.lay(MOST), -1);
    }

    private static void order(SaltPool x, int ship, int... wanted) {
        for (int what = 0; what < 4; what++) {
            CHECK.due("laid(" + ship + ", " + what + ")", x.laid(ship, what), wanted[what]);
        }
    }

    private static void layOrders() {
        CHECK.section("promise 22, orders");
        SaltPool x = new SaltPool();
        x.ship(0, 10, 1, 0, 1);
        x.ship(0, 1, 1, 0, 5);
        x.ship(3, 2, 1, 2, 100);
        // 1 first (5); then 0 would hold up 2, so 2 at 3..4 (0), then 0 at 5..14 (15)
        CHECK.due("lay(7)", x.lay(7), 20);
        order(x, 1, 0, 0, 0, 5);
        order(x, 2, 1, 3, 4, 0);
        order(x, 0, 2, 5, 14, 15);
        CHECK.due("lay(5)", x.lay(5), 15);
        order(x, 2, 0, 3, 4, 0);
        order(x, 0, 1, 5, 14, 15);
        CHECK.due("laid(1, 0)", x.laid(1, 0), -2);
        CHECK.due("one that is not there", x.lay(8), -1);
        CHECK.due("one that is not there, with others", x.lay(15), -1);
        order(x, 0, 1, 5, 14, 15);
    }

    private static void layTies() {
        CHECK.section("promise 22, like costs");
        SaltPool x = new SaltPool();
        for (int ship = 0; ship < 6; ship++) {
            x.ship(0, 2, 1, 0, 1);
        }
        CHECK.due("lay(63)", x.lay(63), 2 + 4 + 6 + 8 + 10 + 12);
        for (int ship = 0; ship < 6; ship++) {
            order(x, ship, ship, 2 * ship, 2 * ship + 1, 2 * ship + 2);
        }
        SaltPool y = new SaltPool();
        y.ship(5, 1, 1, 0, 0);
        y.ship(0, 1, 1, 0, 0);
        y.ship(2, 1, 1, 0, 0);
        CHECK.due("all free", y.lay(7), 0);
        order(y, 0, 0, 5, 5, 0);
        order(y, 1, 1, 6, 6, 0);
        order(y, 2, 2, 7, 7, 0);
        SaltPool z = new SaltPool();
        z.ship(0, 1, 1, 0, 0);
        z.ship(0, 1, 1, 0, 3);
        z.ship(0, 1, 1, 0, 3);
        // 1, 2 and 2, 1 ahead of 0 cost 9 alike, 0 must be last
        CHECK.due("a tie behind a first that differs", z.lay(7), 9);
        CHECK.due("laid(1, 0)", z.laid(1, 0), 0);
        CHECK.due("laid(2, 0)", z.laid(2, 0), 1);
        CHECK.due("laid(0, 0)", z.laid(0, 0), 2);
    }

    private static void laySurf() {
        CHECK.section("promise 22, surf");
        SaltPool x = new SaltPool();
        x.ship(0, 3, 1, 0, 2);
        x.ship(1, 2, 1, 1, 3);
        read(x, 0, 9, 0, 9, 0, 9, 0, 0, 9, 9, 0);
        // 0: days 1, 3, 5 (12); 1: turn 6, days 6, 9 (24): 36. 1 first: days 1, 3 (6); 0: turn 4, 5, 6, 9 (20): 26
        CHECK.due("lay(3)", x.lay(3), 26);
        order(x, 1, 0, 1, 3, 6);
        order(x, 0, 1, 4, 9, 20);
        SaltPool y = new SaltPool();
        y.ship(58, 4, 1, 0, 1);
        y.ship(57, 1, 1, 0, 1);
        read(y, 57, 0, 9, 0);
        // 58 closed, then 59 and all beyond as 59: 59, 60, 61, 62
        CHECK.due("lay(1)", y.lay(1), 5);
        CHECK.due("laid(0, 2)", y.laid(0, 2), 62);
        CHECK.due("lay(3)", y.lay(3), 6);
        SaltPool z = new SaltPool();
        z.ship(50, 12, 1, 0, 1);
        z.ship(50, 3, 1, 0, 0);
        CHECK.due("the first goes on behind 59, the second wholly behind it", z.lay(3), 12);
        CHECK.due("laid(0, 2)", z.laid(0, 2), 61);
        order(z, 1, 1, 62, 64, 0);
        SaltPool e = new SaltPool();
        e.bar(0);
        e.ship(58, 2, 1, 0, 1);
        e.ship(59, 2, 1, 0, 1);
        // surf of bar lets load for ever; the second's turn is just the first day behind 59
        CHECK.due("a turn on 60", e.lay(3), 2 + 3);
        order(e, 0, 0, 58, 59, 2);
        order(e, 1, 1, 60, 61, 3);
        CHECK.due("over 59", e.lay(2), 2);
        CHECK.due("laid(1, 2)", e.laid(1, 2), 60);
    }

    private static void layNone() {
        CHECK.section("promise 22, no order");
        SaltPool x = new SaltPool();
        x.ship(56, 2, 1, 0, 10);
        x.ship(57, 1, 1, 0, 1);
        x.ship(58, 1, 1, 0, 1);
        read(x, 56, 0, 0, 0, 9);
        CHECK.due("all days are used", x.lay(3), 20 + 2);
        CHECK.due("one day too few", x.lay(7), -2);
        CHECK.due("the latest that told a cost stays", x.laid(1, 2), 58);
        CHECK.due("and who was not among them", x.laid(2, 0), -2);
        CHECK.due("bad lay", x.lay(8), -1);
        CHECK.due("the latest that told a cost stays", x.laid(0, 3), 20);
        SaltPool y = new SaltPool();
        y.ship(57, 1, 1, 0, 0);
        y.ship(55, 2, 1, 0, 100);
        read(y, 55, 0, 0, 0, 9, 9);
        // 0, 1 would be first by numbers and can't be: 1 would load beyond 59
        CHECK.due("an order that is none is not the cheapest", y.lay(3), 200);
        CHECK.due("laid(1, 0)", y.laid(1, 0), 0);
        CHECK.due("laid(0, 2)", y.laid(0, 2), 57);
        SaltPool z = new SaltPool();
        z.ship(0, 1, 1, 30, 0);
        read(z, 30, 6);
        CHECK.due("no day lets load", z.lay(1), -2);
        CHECK.due("ahead of one that told a cost", z.laid(0, 0), -1);
    }

    private static void laid() {
        CHECK.section("promise 23");
        SaltPool x = new SaltPool();
        x.ship(0, 2, 1, 0, 1);
        x.ship(0, 2, 1, 0, 1);
        CHECK.due("ahead of one", x.laid(0, 0), -1);
        x.lay(0);
        CHECK.due("behind a bad one", x.laid(0, 0), -1);
        read(x, 0, 9);
        x.bar(9);
        x.lay(3);
        order(x, 1, 1, 2, 3, 4);
        x.bar(5);
        order(x, 1, 1, 2, 3, 4);
        CHECK.due("ship -1", x.laid(-1, 0), -1);
        CHECK.due("ship 2", x.laid(2, 0), -1);
        CHECK.due("what -1", x.laid(0, -1), -1);
        CHECK.due("what 4", x.laid(0, 4), -1);
        x.ship(0, 1, 1, 0, 0);
        CHECK.due("a ship that came later", x.laid(2, 0), -2);
        CHECK.due("NOT is named ahead of BAD", x.laid(2, 4), -2);
        read(x, 1, 0);
        CHECK.due("lay(2)", x.lay(2), 3);
        order(x, 1, 0, 0, 2, 3);
        CHECK.due("not among the latest", x.laid(0, 0), -2);
    }
}
