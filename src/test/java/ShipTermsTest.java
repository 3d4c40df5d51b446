/** The sentences of the document's Terms 3 and of the sheets, each at its boundary cases. */
public final class ShipTermsTest {
    private static final Check CHECK = new Check("ShipTermsTest");
    private static final int BAD = -1, NOT = -2, NULL = -11, INDEX = -13;

    public static void main(String[] args) {
        unreadAtFirst();
        unreadBetween();
        unreadAtTheEnds();
        unreadAgain();
        cutDown();
        aboveBar();
        arrivesOrBehindTheLast();
        daysCutUp();
        beyondLay();
        leastCost();
        firstByNumbers();
        as59();
        noOrder();
        mostOfAll();
        latestLay();
        turns();
        holds();
        rows();
        lanes();
        takenAhead();
        CHECK.close();
    }

    private static void seas(String when, SaltPool x, int day, int... wanted) {
        for (int k = 0; k < wanted.length; k++) {
            CHECK.due(when + ": sea(" + (day + k) + ")", x.sea(day + k), wanted[k]);
        }
    }

    private static void laid(String when, SaltPool x, int ship, int... wanted) {
        for (int what = 0; what < 4; what++) {
            CHECK.due(when + ": laid(" + ship + ", " + what + ")", x.laid(ship, what), wanted[what]);
        }
    }

    private static SaltPool ships(int[]... ships) {
        SaltPool x = new SaltPool();
        for (int[] s : ships) {
            x.ship(s[0], s[1], s[2], s[3], s[4]);
        }
        return x;
    }

    private static void unreadAtFirst() {
        CHECK.section("all unread at first; of none as 0");
        SaltPool x = ships(new int[] {59, 1, 1, 0, 1});
        seas("none is read", x, 0, 0, 0, 0);
        seas("none is read", x, 57, 0, 0, 0);
        x.bar(0);
        CHECK.due("one loads at a bar of 0", x.lay(1), 1);
    }

    private static void unreadBetween() {
        CHECK.section("half of both together of the nearest DAY ahead and the nearest behind that are read");
        SaltPool x = new SaltPool();
        Scenes.read(x, 10, 1, 8, -1, -1, -1, 2, 9);
        seas("the nearest alone count", x, 10, 1, 8, 5, 5, 5, 2, 9);
        Scenes.read(x, 13, 0);
        seas("one between", x, 11, 8, 4, 0, 1, 2);
        SaltPool y = new SaltPool();
        Scenes.read(y, 0, 9);
        Scenes.read(y, 59, 0);
        for (int day = 1; day < 59; day++) {
            CHECK.due("from 0 to 59: sea(" + day + ")", y.sea(day), 4);
        }
        seas("the ends", y, 0, 9);
        seas("the ends", y, 59, 0);
    }

    private static void unreadAtTheEnds() {
        CHECK.section("of but one of these as that one");
        for (int day = 0; day < 60; day++) {
            SaltPool x = new SaltPool();
            Scenes.read(x, day, 7);
            seas("read on " + day, x, 0, 7);
            seas("read on " + day, x, day, 7);
            seas("read on " + day, x, 59, 7);
        }
        SaltPool x = new SaltPool();
        Scenes.read(x, 30, 3, 6);
        seas("behind alone", x, 28, 3, 3, 3);
        seas("ahead alone", x, 31, 6, 6, 6);
        seas("the first day", x, 0, 3);
        seas("the last day", x, 59, 6);
    }

    private static void unreadAgain() {
        CHECK.section("below 0 unread");
        for (int lane = 0; lane < 3; lane++) {
            for (int below : new int[] {-1, -2, -128, lane == 0 ? 128 : -32768, lane < 2 ? -1 : Integer.MIN_VALUE}) {
                SaltPool x = new SaltPool();
                Scenes.row(x, 0, lane, 2, 9, 4);
                CHECK.due("surf", x.surf(5, 0, lane, 0, 3), 3);
                CHECK.due("read", x.sea(6), 9);
                x.item(0, lane, 1, below);
                CHECK.due("surf", x.surf(6, 0, lane, 1, 1), 1);
                CHECK.due("unread by " + below, x.sea(6), 3);
            }
        }
        SaltPool x = new SaltPool();
        Scenes.readAlike(x, 0, 60, 9);
        seas("all read", x, 58, 9, 9);
        Scenes.readAlike(x, 0, 59, -1);
        seas("all but the last unread", x, 0, 9);
        Scenes.read(x, 59, -1);
        seas("all unread", x, 0, 0);
        seas("all unread", x, 59, 0);
    }

    private static void cutDown() {
        CHECK.section("Divisions are cut down");
        for (int ahead = 0; ahead <= 9; ahead++) {
            for (int behind = 0; behind <= 9; behind++) {
                SaltPool x = new SaltPool();
                Scenes.read(x, 20, ahead, -1, behind);
                CHECK.due("half of " + ahead + " and " + behind, x.sea(21), (ahead + behind) / 2);
            }
        }
        SaltPool x = Scenes.pool(100, 1);
        x.lot(0, 10, 90);
        x.lot(0, 9, 90);
        x.rail(0, 90);
        x.rail(1, 90);
        x.ship(0, 100, 1, 0, 0);
        x.load(0, 0, 9);
        CHECK.due("10", x.grade(0), 10);
        x.load(0, 1, 1);
        CHECK.due("9.9", x.grade(0), 9);
        x.load(0, 1, 8);
        CHECK.due("9.5", x.grade(0), 9);
    }

    private static void aboveBar() {
        CHECK.section("A DAY of SURF above BAR (0 .. 9; 5 at first) nobody loads");
        for (int bar = 0; bar <= 9; bar++) {
            for (int surf = 0; surf <= 9; surf++) {
                SaltPool x = ships(new int[] {0, 1, 1, 0, 1});
                Scenes.read(x, 0, surf, 0);
                x.bar(bar);
                CHECK.due("surf " + surf + ", bar " + bar, x.lay(1), surf > bar ? 2 : 1);
            }
        }
        SaltPool x = ships(new int[] {0, 2, 1, 0, 1});
        Scenes.read(x, 0, 5, 6, 5);
        CHECK.due("5 at first", x.lay(1), 3);
        // an unread day is taken as half of 9 and 2, or of 9 and 3
        SaltPool y = ships(new int[] {1, 1, 1, 0, 1});
        Scenes.read(y, 0, 9, -1, 2);
        CHECK.due("unread, taken as 5", y.lay(1), 1);
        Scenes.read(y, 2, 3);
        CHECK.due("unread, taken as 6", y.lay(1), 2);
    }

    private static void arrivesOrBehindTheLast() {
        CHECK.section("each from the DAY on which it ARRIVES, or the one behind the last one's end");
        for (int arrival = 0; arrival < 6; arrival++) {
            // the first on days 0 to 2, at a due that keeps it first
            SaltPool x = ships(new int[] {0, 3, 1, 0, 100}, new int[] {arrival, 2, 1, 0, 1});
            int turn = Math.max(3, arrival);
            CHECK.due("arrival " + arrival, x.lay(3), 300 + turn + 1 - arrival + 1);
            laid("arrival " + arrival, x, 0, 0, 0, 2, 300);
            laid("arrival " + arrival, x, 1, 1, turn, turn + 1, turn + 2 - arrival);
        }
        SaltPool x = ships(new int[] {59, 1, 1, 0, 1}, new int[] {0, 1, 1, 0, 0});
        CHECK.due("one ahead of it would end on 0", x.lay(3), 1);
        laid("it waits for the first by numbers", x, 0, 0, 59, 59, 1);
        laid("behind 59", x, 1, 1, 60, 60, 0);
    }

    private static void daysCutUp() {
        CHECK.section("as many DAYS on which one loads as its room wants by its RATE (cut up)");
        int[][] rooms = {
            {1, 1, 1}, {1, 2000, 1}, {1999, 2000, 1}, {2000, 2000, 1}, {2001, 2000, 2}, {20000, 2000, 10}, {19999, 2000, 10},
            {18001, 2000, 10}, {18000, 2000, 9}, {7, 3, 3}, {6, 3, 2}, {5, 3, 2}, {20000, 1, 20000}, {20000, 3, 6667},
        };
        for (int[] r : rooms) {
            SaltPool x = ships(new int[] {0, r[0], r[1], 0, 1});
            CHECK.due("room " + r[0] + ", rate " + r[1], x.lay(1), r[2]);
            CHECK.due("its end", x.laid(0, 2), r[2] - 1);
        }
        SaltPool x = Scenes.pool(100, 1);
        x.lot(0, 1, 50);
        x.rail(0, 50);
        x.ship(0, 50, 10, 0, 1);
        x.load(0, 0, 45);
        CHECK.due("its room, not what room is left", x.lay(1), 5);
    }

    private static void beyondLay() {
        CHECK.section("DUE for each DAY from its ARRIVAL to its END, both counted, beyond LAY");
        for (int lay = 0; lay <= 30; lay++) {
            SaltPool x = ships(new int[] {20, 10, 1, lay, 7});
            CHECK.due("10 days, lay " + lay, x.lay(1), 7 * Math.max(0, 10 - lay));
        }
        SaltPool x = ships(new int[] {10, 1, 1, 30, 100}, new int[] {10, 1, 1, 0, 0}, new int[] {10, 1, 1, 0, 100});
        CHECK.due("a day within a lay of 30", x.lay(1), 0);
        CHECK.due("a due of 0", x.lay(2), 0);
        CHECK.due("a day beyond a lay of 0", x.lay(4), 100);
        // days that surf closes count from the arrival on
        Scenes.readAlike(x, 10, 29, 9);
        Scenes.read(x, 39, 0);
        CHECK.due("the thirtieth day is within", x.lay(1), 0);
        Scenes.read(x, 39, 9, 0);
        CHECK.due("the next is beyond", x.lay(1), 100);
        laid("the next is beyond", x, 0, 0, 10, 40, 100);
        CHECK.due("days ahead of the arrival do not count", ships(new int[] {59, 1, 1, 1, 100}).lay(1), 0);
    }

    private static void leastCost() {
        CHECK.section("THE ORDER is that of least cost of all together");
        // 0 first: 10 and 11 * 3; 1 first: 3 and 11
        SaltPool x = ships(new int[] {0, 10, 1, 0, 1}, new int[] {0, 1, 1, 0, 3});
        CHECK.due("the short one first", x.lay(3), 14);
        laid("the short one first", x, 1, 0, 0, 0, 3);
        laid("the short one first", x, 0, 1, 1, 10, 11);
        SaltPool y = ships(new int[] {0, 3, 1, 0, 1}, new int[] {1, 1, 1, 0, 4});
        // 0, 1: 3 and 3 * 4 = 15; 1, 0: 4 and 5 = 9
        CHECK.due("the mole waits for one that is worth it", y.lay(3), 9);
        laid("the mole waits", y, 1, 0, 1, 1, 4);
        laid("the mole waits", y, 0, 1, 2, 4, 5);
        SaltPool z = ships(new int[] {0, 3, 1, 0, 1}, new int[] {1, 1, 1, 0, 1});
        // 0, 1: 3 and 3 = 6; 1, 0: 1 and 5 = 6
        CHECK.due("or not, at like cost", z.lay(3), 6);
        CHECK.due("the first by numbers", z.laid(0, 0), 0);
        SaltPool six = ships(new int[] {0, 6, 1, 0, 1}, new int[] {0, 5, 1, 0, 1}, new int[] {0, 4, 1, 0, 1},
                new int[] {0, 3, 1, 0, 1}, new int[] {0, 2, 1, 0, 1}, new int[] {0, 1, 1, 0, 1});
        CHECK.due("six, the last first", six.lay(63), 1 + 3 + 6 + 10 + 15 + 21);
        for (int ship = 0; ship < 6; ship++) {
            CHECK.due("place of " + ship, six.laid(ship, 0), 5 - ship);
        }
        CHECK.due("ships 1, 3, 5", six.lay(42), 1 + 4 + 9);
        CHECK.due("place of 5", six.laid(5, 0), 0);
        CHECK.due("place of 3", six.laid(3, 0), 1);
        CHECK.due("place of 1", six.laid(1, 0), 2);
        CHECK.due("place of 0", six.laid(0, 0), NOT);
    }

    private static void firstByNumbers() {
        CHECK.section("of such the first by numbers of SHIPS");
        int[] like = {0, 1, 1, 0, 0};
        SaltPool x = ships(like, like, like, like, like, like);
        for (int bits = 1; bits < 64; bits++) {
            CHECK.due("lay(" + bits + ")", x.lay(bits), 0);
            int place = 0;
            for (int ship = 0; ship < 6; ship++) {
                boolean among = (bits >> ship & 1) == 1;
                CHECK.due("lay(" + bits + "), place of " + ship, x.laid(ship, 0), among ? place : NOT);
                place += among ? 1 : 0;
            }
        }
        // 2 must be ahead of 0 and 1, which are alike; and then 3, whose due is 0, may come where it does not hinder
        SaltPool y = ships(new int[] {0, 1, 1, 0, 1}, new int[] {0, 1, 1, 0, 1}, new int[] {0, 1, 1, 0, 5},
                new int[] {0, 1, 1, 0, 0});
        CHECK.due("lay(15)", y.lay(15), 5 + 2 + 3);
        int[] places = {1, 2, 0, 3};
        for (int ship = 0; ship < 4; ship++) {
            CHECK.due("place of " + ship, y.laid(ship, 0), places[ship]);
        }
    }

    private static void as59() {
        CHECK.section("DAYS from 60 on are as 59");
        SaltPool x = ships(new int[] {59, 1, 1, 0, 1}, new int[] {59, 2, 1, 0, 1}, new int[] {58, 20000, 1, 0, 1});
        Scenes.read(x, 59, 5);
        CHECK.due("59 alone", x.lay(1), 1);
        CHECK.due("59 and 60", x.lay(2), 2);
        CHECK.due("end", x.laid(1, 2), 60);
        CHECK.due("58 to 20057", x.lay(4), 20000);
        CHECK.due("end", x.laid(2, 2), 20057);
        CHECK.due("all", x.lay(7), 1 + 3 + 20004);
        laid("all", x, 0, 0, 59, 59, 1);
        laid("all", x, 1, 1, 60, 61, 3);
        laid("all", x, 2, 2, 62, 20061, 20004);
        Scenes.read(x, 57, 6, 6, 5);
        CHECK.due("58 is closed, 59 is not", x.lay(4), 20001);
        SaltPool y = ships(new int[] {50, 20, 1, 0, 1});
        Scenes.read(y, 40, 5);
        CHECK.due("59 is unread, and taken as 40", y.lay(1), 20);
        Scenes.read(y, 40, 6);
        CHECK.due("59 is unread, and taken as 40, which is closed", y.lay(1), NOT);
        y.bar(6);
        CHECK.due("a bar of its surf", y.lay(1), 20);
    }

    private static void noOrder() {
        CHECK.section("(An order by which one would have to load on a DAY from 60 on, while none of these lets load)");
        SaltPool x = ships(new int[] {57, 2, 1, 0, 1}, new int[] {57, 3, 1, 0, 1}, new int[] {59, 1, 1, 0, 1},
                new int[] {58, 1, 1, 0, 1}, new int[] {0, 20000, 2000, 0, 1}, new int[] {0, 1, 1, 0, 1});
        Scenes.read(x, 57, 0, 0, 9);
        CHECK.due("57 and 58", x.lay(1), 2);
        CHECK.due("a third day is from 60 on", x.lay(2), NOT);
        CHECK.due("59 is closed", x.lay(4), NOT);
        CHECK.due("58", x.lay(8), 1);
        CHECK.due("58 behind 57 and 58", x.lay(9), NOT);
        CHECK.due("the latest that told a cost", x.laid(3, 2), 58);
        CHECK.due("0 to 9 and 10", x.lay(48), 1 + 11);
        Scenes.readAlike(x, 0, 60, 9);
        CHECK.due("no day lets load", x.lay(32), NOT);
        Scenes.read(x, 59, 0);
        CHECK.due("59 alone, and all beyond", x.lay(32), 60);
        CHECK.due("two of these", x.lay(33), 60 + 5);
        Scenes.read(x, 58, 0, 9);
        CHECK.due("58 alone", x.lay(32), 59);
        CHECK.due("58 alone, two days wanted", x.lay(1), NOT);
        // by numbers 0 ahead of 1 is none, since 1 then has no day; the other one is, and costs more than 0 alone could
        SaltPool y = ships(new int[] {58, 1, 1, 0, 0}, new int[] {56, 2, 1, 0, 50});
        Scenes.read(y, 56, 0, 0, 0, 9);
        CHECK.due("another order", y.lay(3), 100);
        laid("another order", y, 1, 0, 56, 57, 100);
        laid("another order", y, 0, 1, 58, 58, 0);
    }

    private static void mostOfAll() {
        CHECK.section("the most of all: 6 ships of 20000 sacks, one a day, at 100 a day");
        int[] most = {0, 20000, 1, 0, 100};
        SaltPool x = ships(most, most, most, most, most, most);
        Scenes.readAlike(x, 0, 59, 9);
        Scenes.read(x, 59, 0);
        int cost = 0;
        for (int k = 1; k <= 6; k++) {
            cost += 100 * (59 + 20000 * k);
        }
        CHECK.due("lay(63)", x.lay(63), cost);
        for (int ship = 0; ship < 6; ship++) {
            laid("of " + ship, x, ship, ship, ship == 0 ? 0 : 59 + 20000 * ship, 58 + 20000 * (ship + 1),
                    100 * (59 + 20000 * (ship + 1)));
        }
    }

    private static void latestLay() {
        CHECK.section("by the latest lay() that told a cost; BAD: also ahead of one");
        SaltPool x = ships(new int[] {0, 1, 1, 0, 1}, new int[] {0, 2, 1, 0, 1});
        CHECK.due("ahead of one", x.laid(0, 0), BAD);
        CHECK.due("lay(0)", x.lay(0), BAD);
        CHECK.due("lay(4)", x.lay(4), BAD);
        CHECK.due("behind ones that were BAD", x.laid(0, 0), BAD);
        Scenes.read(x, 30, 9);
        CHECK.due("lay(3)", x.lay(3), NOT);
        CHECK.due("behind one that was NOT", x.laid(0, 0), BAD);
        x.bar(9);
        CHECK.due("lay(3)", x.lay(3), 4);
        laid("the first that told a cost", x, 1, 1, 1, 2, 3);
        x.bar(5);
        Scenes.read(x, 0, 0);
        laid("another surf changes nothing", x, 1, 1, 1, 2, 3);
        x.ship(0, 1, 1, 0, 1);
        CHECK.due("a ship that came behind it", x.laid(2, 0), NOT);
        laid("another ship changes nothing", x, 1, 1, 1, 2, 3);
        x.bar(0);
        Scenes.readAlike(x, 0, 60, 1);
        CHECK.due("lay(7)", x.lay(7), NOT);
        laid("one that was NOT changes nothing", x, 1, 1, 1, 2, 3);
        CHECK.due("one that was NOT changes nothing", x.laid(2, 0), NOT);
        x.bar(1);
        CHECK.due("a cost of 0 is told too", ships(new int[] {0, 1, 1, 1, 1}).lay(1), 0);
        CHECK.due("lay(4)", x.lay(4), 1);
        laid("the latest", x, 2, 0, 0, 0, 1);
        CHECK.due("not among the latest", x.laid(1, 0), NOT);
        SaltPool y = ships(new int[] {0, 1, 1, 1, 1});
        y.lay(1);
        laid("a cost of 0", y, 0, 0, 0, 0, 0);
    }

    private static void turns() {
        CHECK.section("the first DAY on which it could have loaded (its turn)");
        SaltPool x = ships(new int[] {3, 1, 1, 0, 9}, new int[] {3, 1, 1, 0, 1});
        Scenes.read(x, 3, 9, 0, 9, 0);
        CHECK.due("lay(3)", x.lay(3), 18 + 4);
        laid("its arrival, though surf is above the bar", x, 0, 0, 3, 4, 18);
        laid("the day behind the last one's end, though surf is above the bar", x, 1, 1, 5, 6, 4);
    }

    private static void holds() {
        CHECK.section("held (-1: of all); the GRADE of all SACKS together, by how many");
        SaltPool x = Scenes.pool(1000000, 1);
        for (int lot = 0; lot < 60; lot++) {
            x.lot(0, lot < 30 ? 0 : 1000, 10000);
        }
        x.rail(0, 10000);
        x.rail(59, 10000);
        x.ship(0, 20000, 1, 0, 0);
        x.ship(0, 1, 1, 0, 0);
        CHECK.due("an empty hold", x.held(0, -1), 0);
        CHECK.due("an empty hold", x.grade(0), NOT);
        CHECK.due("one sack", x.load(1, 59, 1), 1);
        CHECK.due("of one sack", x.grade(1), 1000);
        CHECK.due("9999 more", x.load(0, 59, 9999), 9999);
        CHECK.due("10000 of the least grade", x.load(0, 0, 10000), 10000);
        CHECK.due("19999", x.held(0, -1), 19999);
        CHECK.due("499.97", x.grade(0), 499);
        CHECK.due("the first lot", x.held(0, 0), 10000);
        CHECK.due("the last lot", x.held(0, 59), 9999);
        CHECK.due("a lot that is not in it", x.held(0, 30), 0);
        x.rail(58, 2);
        CHECK.due("two into room for one", x.load(0, 58, 2), NOT);
        CHECK.due("one into room for one", x.load(0, 58, 1), 1);
        CHECK.due("full", x.held(0, -1), 20000);
        CHECK.due("500", x.grade(0), 500);
        CHECK.due("one into room for none", x.load(0, 58, 1), NOT);
    }

    private static void rows() {
        CHECK.section("SHEETS hold nothing (at first), or a row of 0 to 60 items (0 at first)");
        SaltPool x = new SaltPool();
        for (int sheet = 0; sheet < 4; sheet++) {
            CHECK.due("nothing at first", x.drop(sheet), NULL);
            for (int lane = 0; lane < 3; lane++) {
                for (int n : new int[] {0, 1, 59, 60}) {
                    CHECK.due("sheet", x.sheet(sheet, lane, n), n);
                    CHECK.due("all items", x.surf(0, sheet, lane, 0, n), n);
                    CHECK.due("the last item", x.sea(Math.max(0, n - 1)), 0);
                    CHECK.due("an item behind the last", x.item(sheet, lane, n, 1), INDEX);
                    CHECK.due("drop", x.drop(sheet), n);
                    CHECK.due("drop of nothing", x.drop(sheet), NULL);
                }
            }
        }
        SaltPool y = new SaltPool();
        Scenes.row(y, 2, 0, 5, 6, 7, 8);
        CHECK.due("a new row where one was", y.sheet(2, 0, 4), 4);
        CHECK.due("surf", y.surf(0, 2, 0, 0, 4), 4);
        seas("0 at first", y, 0, 0, 0, 0, 0);
        Scenes.row(y, 2, 1, 5, 6, 7, 8);
        CHECK.due("drop", y.drop(2), 4);
        CHECK.due("a new row where nothing was", y.sheet(2, 1, 4), 4);
        CHECK.due("surf", y.surf(0, 2, 1, 0, 4), 4);
        seas("0 at first", y, 0, 0, 0, 0, 0);
        Scenes.row(y, 1, 2, 4, 4);
        CHECK.due("other sheets are their own", y.surf(0, 2, 1, 0, 2), 2);
        seas("still 0", y, 0, 0, 0);
    }

    /** An item's value shows by surf: above 9 NOT, below 0 unread (taken as the 9 beside it), else itself. */
    private static void lanes() {
        CHECK.section("becomes v, its lowest bits: 0 bytes, 1 shorts, 2 ints");
        int[] values = {0, 9, 10, -1, 127, 128, 129, 255, 256, 265, 266, -128, -129, -247, -248, -256, 32767, 32768, 32769,
            65535, 65536, 65545, 65546, -32768, -32769, -65527, -65526, -65536, Integer.MAX_VALUE, Integer.MIN_VALUE,
            Integer.MIN_VALUE + 5, Integer.MAX_VALUE - 255};
        for (int v : values) {
            int[] kept = {(byte) v, (short) v, v};
            for (int lane = 0; lane < 3; lane++) {
                SaltPool x = new SaltPool();
                x.sheet(0, lane, 2);
                x.item(0, lane, 1, 9);
                CHECK.due("item", x.item(0, lane, 0, v), 1);
                boolean above = kept[lane] > 9;
                CHECK.due("lane " + lane + ", surf of " + v, x.surf(7, 0, lane, 0, 2), above ? NOT : 2);
                CHECK.due("lane " + lane + ", sea of " + v, x.sea(7), above ? 0 : kept[lane] < 0 ? 9 : kept[lane]);
            }
        }
    }

    private static void takenAhead() {
        CHECK.section("copy, as if all were taken ahead");
        for (int lane = 0; lane < 3; lane++) {
            for (int i = 0; i <= 5; i++) {
                for (int j = 0; j <= 5; j++) {
                    for (int n = 0; n <= 5 - Math.max(i, j); n++) {
                        oneCopy(lane, i, j, n);
                    }
                }
            }
        }
    }

    private static void oneCopy(int lane, int i, int j, int n) {
        int[] items = {1, 2, 3, 4, 5};
        SaltPool x = new SaltPool();
        Scenes.row(x, 0, lane, items);
        Scenes.row(x, 1, lane, 6, 7, 8, 9, 0);
        String call = "lane " + lane + ", copy from " + i + " to " + j + " of " + n;
        CHECK.due(call + ", to another", x.copy(0, i, 1, j, n), n);
        CHECK.due(call + ", to the same", x.copy(0, i, 0, j, n), n);
        x.surf(0, 0, lane, 0, 5);
        x.surf(10, 1, lane, 0, 5);
        int[] others = {6, 7, 8, 9, 0};
        for (int k = 0; k < 5; k++) {
            boolean copied = k >= j && k < j + n;
            CHECK.due(call + ", item " + k, x.sea(k), copied ? items[i + k - j] : items[k]);
            CHECK.due(call + ", the other's item " + k, x.sea(10 + k), copied ? items[i + k - j] : others[k]);
        }
    }
}
