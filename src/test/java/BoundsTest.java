import java.util.Set;
import java.util.TreeSet;
import java.util.function.Supplier;

/**
 * The bounds of each number that a call takes: the last that is as told and the first that is not, on both sides, and
 * the least and the greatest int. Each try is on an object of its own.
 */
public final class BoundsTest {
    private static final Check CHECK = new Check("BoundsTest");
    private static final int BAD = -1, NOT = -2, NULL = -11, CAST = -12, INDEX = -13, SIZE = -14;
    private static final int NO_QUOTA = -10000001;
    private static final int LEAST = Integer.MIN_VALUE;
    private static final int MOST = Integer.MAX_VALUE;
    private static final Set<String> SEEN = new TreeSet<>();

    private interface Call {
        int on(SaltPool x, int v);
    }

    public static void main(String[] args) {
        worksAndLots();
        total();
        lend();
        entries();
        typed();
        ships();
        loads();
        sea();
        surf();
        lay();
        sheets();
        item();
        copy();
        allNumbersAreSeen();
        CHECK.close();
    }

    /** From least on, the answers are the first of due, up to most the second; below and above what follows. */
    private static void bound(String number, Supplier<SaltPool> made, Call call, int least, int most, int... due) {
        within(number, made, call, least, most, due);
        CHECK.due(number + ": the least int", call.on(made.get(), LEAST), due[2]);
        CHECK.due(number + ": the greatest int", call.on(made.get(), MOST), due[3]);
    }

    /** As bound(), where the least and the greatest int answer other than the first that is not as told. */
    private static void within(String number, Supplier<SaltPool> made, Call call, int least, int most, int... due) {
        SEEN.add(number.replaceFirst(",.*", ""));
        CHECK.due(number + ": the last as told, " + least, call.on(made.get(), least), due[0]);
        CHECK.due(number + ": the last as told, " + most, call.on(made.get(), most), due[1]);
        CHECK.due(number + ": the first that is not, " + (least - 1), call.on(made.get(), least - 1), due[2]);
        CHECK.due(number + ": the first that is not, " + (most + 1), call.on(made.get(), most + 1), due[3]);
    }

    private static void busy(String number, Call call, int least, int most, int... due) {
        bound(number, Scenes::busy, call, least, most, due);
    }

    private static void worksAndLots() {
        CHECK.section("promise 2");
        busy("works 0", (x, v) -> x.works(v), 1, 1000, 3, 3, BAD, BAD);
        CHECK.section("promise 3");
        busy("weeks 0", (x, v) -> x.weeks(v), 0, 44, 7, 51, BAD, BAD);
        bound("weeks 0, of a new object", SaltPool::new, (x, v) -> x.weeks(v), 0, 51, 0, 51, BAD, BAD);
        bound("weeks 0, in the last week", Scenes::full, (x, v) -> x.weeks(v), 0, 0, 51, 51, BAD, BAD);
        CHECK.section("promise 4");
        busy("lot 0", (x, v) -> x.lot(v, 5, 5), 0, 2, 3, 3, BAD, BAD);
        busy("lot 1", (x, v) -> x.lot(0, v, 5), 0, 1000, 3, 3, BAD, BAD);
        busy("lot 2", (x, v) -> x.lot(0, 5, v), 1, 10000, 3, 3, BAD, BAD);
        CHECK.section("promise 5");
        busy("rail 0", (x, v) -> x.rail(v, 30), 0, 2, 0, 10, BAD, BAD);
        busy("rail 1", (x, v) -> x.rail(0, v), 1, 30, 29, 0, BAD, NOT);
        bound("rail 0, of 60", Scenes::full, (x, v) -> x.rail(v, 1), 0, 59, 99, 128, BAD, BAD);
        CHECK.section("promise 6");
        busy("told 0", (x, v) -> x.told(v, 1), 0, 2, 700, 10, BAD, BAD);
        busy("told 1", (x, v) -> x.told(2, v), 0, 5, 2, 7, BAD, BAD);
        CHECK.section("promise 24");
        busy("count 0", (x, v) -> x.count(v), 0, 7, 3, 85, BAD, BAD);
    }

    private static void total() {
        CHECK.section("promise 7");
        busy("total 0", (x, v) -> x.total(v), 0, 1000000, 1000, 1000, BAD, BAD);
    }

    /** Works 0 and 1 of 500000 each. */
    private static SaltPool rich() {
        return Scenes.pool(1000000, 1, 1);
    }

    /** Works 1 is shut, so that the total is the quota of works 0. */
    private static SaltPool allTo0(int total) {
        SaltPool x = Scenes.pool(total, 1, 1);
        x.shut(1, true, 0);
        return x;
    }

    private static void lend() {
        CHECK.section("promise 8");
        busy("lend 0", (x, v) -> x.lend(v, 1, 1), 0, 2, 3, 3, BAD, BAD);
        busy("lend 1", (x, v) -> x.lend(1, v, 1), 0, 2, 3, 3, BAD, BAD);
        bound("lend 2", BoundsTest::rich, (x, v) -> x.lend(0, 1, v), 1, 100000, 0, 0, BAD, BAD);
        // a quota of 540 less 20 shipped
        within("lend 2, what is unshipped", Scenes::busy, (x, v) -> x.lend(1, 0, v), 1, 520, 3, 3, BAD, NOT);
        within("lend 2, a quota of 99999", () -> allTo0(99999), (x, v) -> x.lend(0, 1, v), 1, 99999, 1, 1, BAD, NOT);
        within("lend 2, a quota of 100000", () -> allTo0(100000), (x, v) -> x.lend(0, 1, v), 1, 100000, 1, 1, BAD, BAD);
        CHECK.due("100001 of a quota of 99999", allTo0(99999).lend(0, 1, 100001), BAD);
    }

    private static void entries() {
        CHECK.section("promise 9");
        busy("shut 0", (x, v) -> x.shut(v, true, 0), 0, 2, 3, 3, BAD, BAD);
        busy("shut 2", (x, v) -> x.shut(0, true, v), 0, 51, 3, 3, BAD, BAD);
        busy("shut 2, opened", (x, v) -> x.shut(0, false, v), 0, 51, 3, 3, BAD, BAD);
        CHECK.section("promise 10");
        busy("open 0", (x, v) -> x.open(v, 25, 3), 0, 2, 1, 0, BAD, BAD);
        busy("open 1", (x, v) -> x.open(2, v, 2), 0, 51, 1, 0, BAD, BAD);
        busy("open 2", (x, v) -> x.open(2, 25, v), 0, 3, 1, 0, BAD, BAD);
        bound("open 2, of no entries", () -> Scenes.pool(9, 1), (x, v) -> x.open(0, 0, v), 0, 0, 1, 1, BAD, BAD);
        bound("open 2, of 100 entries", Scenes::full, (x, v) -> x.open(1, 51, v), 0, 100, 1, 0, BAD, BAD);
        CHECK.section("promise 11");
        busy("quota 0", (x, v) -> x.quota(v, 7, 3), 0, 2, 260, 200, NO_QUOTA, NO_QUOTA);
        busy("quota 1", (x, v) -> x.quota(0, v, 3), 0, 51, 300, 260, NO_QUOTA, NO_QUOTA);
        busy("quota 2", (x, v) -> x.quota(0, 25, v), 0, 3, 300, 335, NO_QUOTA, NO_QUOTA);
        bound("quota 2, of no entries", () -> Scenes.pool(9, 1), (x, v) -> x.quota(0, 0, v), 0, 0, 9, 9,
                NO_QUOTA, NO_QUOTA);
        CHECK.section("promise 12");
        busy("left 0", (x, v) -> x.left(v), 0, 2, 210, 185, BAD, BAD);
    }

    private static void typed() {
        CHECK.section("promise 13");
        SEEN.add("type 0");
        busy("type 1", (x, v) -> x.type(0x3132333435363738L, v), 1, 8, 7, 14, BAD, BAD);
        for (int place = 0; place < 8; place++) {
            int at = 8 * place;
            long others = 0x3030303030303030L & ~(255L << at);
            bound("type 0, byte " + place, SaltPool::new, (x, v) -> x.type(others | (v & 255L) << at, 8),
                    32, 126, 8, 8, BAD, BAD);
            for (long sign : new long[] {0, 10, 128, 160, 255}) {
                CHECK.due("byte " + place + " of " + sign, new SaltPool().type(others | sign << at, 8), BAD);
            }
        }
        for (int n = 1; n <= 8; n++) {
            CHECK.due("the least long, " + n, new SaltPool().type(Long.MIN_VALUE, n), BAD);
            CHECK.due("the greatest long, " + n, new SaltPool().type(Long.MAX_VALUE, n), BAD);
            CHECK.due("0, " + n, new SaltPool().type(0, n), BAD);
        }
        CHECK.due("the least long with lowest bytes of 48", new SaltPool().type(Long.MIN_VALUE | 0x3030, 2), 2);
        CHECK.due("the greatest bytes of all", new SaltPool().type(0x7E7E7E7E7E7E7E7EL, 8), 8);
        CHECK.due("the least bytes of all", new SaltPool().type(0x2020202020202020L, 8), 8);
    }

    private static void ships() {
        CHECK.section("promise 15");
        busy("ship 0", (x, v) -> x.ship(v, 9, 9, 9, 9), 0, 59, 3, 3, BAD, BAD);
        busy("ship 1", (x, v) -> x.ship(9, v, 9, 9, 9), 1, 20000, 3, 3, BAD, BAD);
        busy("ship 2", (x, v) -> x.ship(9, 9, v, 9, 9), 1, 2000, 3, 3, BAD, BAD);
        busy("ship 3", (x, v) -> x.ship(9, 9, 9, v, 9), 0, 30, 3, 3, BAD, BAD);
        busy("ship 4", (x, v) -> x.ship(9, 9, 9, 9, v), 0, 100, 3, 3, BAD, BAD);
    }

    private static void loads() {
        CHECK.section("promise 16");
        busy("load 0", (x, v) -> x.load(v, 1, 1), 0, 2, 21, 1, BAD, BAD);
        busy("load 1", (x, v) -> x.load(0, v, 1), 0, 2, 51, 1, BAD, BAD);
        // 40 at the port; room for 50, 210 left
        busy("load 2, what is at the port", (x, v) -> x.load(2, 0, v), 1, 40, 1, 40, BAD, NOT);
        // room for 30; 40 at the port, 210 left
        busy("load 2", (x, v) -> x.load(0, 0, v), 1, 30, 51, 80, BAD, NOT);
        // 6 left; 40 at the port, room for 50
        bound("load 2, what is left", BoundsTest::short6, (x, v) -> x.load(2, 0, v), 1, 6, 1, 6, BAD, NOT);
        CHECK.section("promise 17");
        busy("held 0", (x, v) -> x.held(v, -1), 0, 2, 70, 0, BAD, BAD);
        busy("held 1", (x, v) -> x.held(0, v), -1, 2, 70, 0, BAD, BAD);
        bound("held 1, of no lots", BoundsTest::oneShip, (x, v) -> x.held(0, v), -1, -1, 0, 0, BAD, BAD);
        CHECK.section("promise 18");
        busy("grade 0", (x, v) -> x.grade(v), 0, 2, 771, NOT, BAD, BAD);
    }

    private static SaltPool short6() {
        SaltPool x = Scenes.busy();
        x.lend(0, 1, 204);
        return x;
    }

    private static SaltPool oneShip() {
        SaltPool x = new SaltPool();
        x.ship(0, 1, 1, 0, 0);
        return x;
    }

    private static void sea() {
        CHECK.section("promise 20");
        busy("sea 0", (x, v) -> x.sea(v), 0, 59, 3, 2, BAD, BAD);
        CHECK.section("promise 21");
        busy("bar 0", (x, v) -> x.bar(v), 0, 9, 6, 6, BAD, BAD);
    }

    private static void surf() {
        CHECK.section("promise 19");
        busy("surf 0", (x, v) -> x.surf(v, 0, 0, 0, 1), 0, 59, 1, 1, BAD, BAD);
        busy("surf 0, for three days", (x, v) -> x.surf(v, 0, 0, 0, 3), 0, 57, 3, 3, BAD, BAD);
        busy("surf 0, for none", (x, v) -> x.surf(v, 0, 0, 0, 0), 0, 59, 0, 0, BAD, BAD);
        busy("surf 1", (x, v) -> x.surf(0, v, 0, 0, 1), 0, 3, 1, NULL, BAD, BAD);
        busy("surf 2", (x, v) -> x.surf(0, 0, v, 0, 1), 0, 2, 1, CAST, BAD, BAD);
        busy("surf 3", (x, v) -> x.surf(0, 0, 0, v, 1), 0, 4, 1, 1, INDEX, INDEX);
        busy("surf 3, two items", (x, v) -> x.surf(0, 0, 0, v, 2), 0, 3, 2, 2, INDEX, INDEX);
        busy("surf 3, all items", (x, v) -> x.surf(0, 0, 0, v, 5), 0, 0, 5, 5, INDEX, INDEX);
        busy("surf 3, no items", (x, v) -> x.surf(0, 0, 0, v, 0), 0, 5, 0, 0, INDEX, INDEX);
        busy("surf 4, up to day 59", (x, v) -> x.surf(57, 0, 0, 0, v), 0, 3, 0, 3, BAD, BAD);
        within("surf 4", Scenes::busy, (x, v) -> x.surf(0, 0, 0, 0, v), 0, 5, 0, 5, BAD, INDEX);
        CHECK.due("surf 4: the greatest int", Scenes.busy().surf(0, 0, 0, 0, MOST), BAD);
        CHECK.due("surf 4: the least int", Scenes.busy().surf(0, 0, 0, 0, LEAST), BAD);
        CHECK.due("surf 4: 60 days of 5 items", Scenes.busy().surf(0, 0, 0, 0, 60), INDEX);
        CHECK.due("surf 4: 61 days", Scenes.busy().surf(0, 0, 0, 0, 61), BAD);
        bound("surf 4, of 60 items", Scenes::full, (x, v) -> x.surf(0, 0, 0, 0, v), 0, 60, 0, 60, BAD, BAD);
        // ints may be any; below 0 they are unread
        for (int v : new int[] {LEAST, -1, 0, 9, 10, MOST}) {
            SaltPool x = new SaltPool();
            Scenes.row(x, 0, 2, v);
            CHECK.due("surf of an item of " + v, x.surf(0, 0, 2, 0, 1), v > 9 ? NOT : 1);
            CHECK.due("sea behind an item of " + v, x.sea(0), v == 9 ? 9 : 0);
        }
    }

    private static void lay() {
        CHECK.section("promise 22");
        SaltPool x = Scenes.busy();
        busy("lay 0", (y, v) -> y.lay(v), 1, 7, x.lay(1), x.lay(7), BAD, BAD);
        bound("lay 0, of no ships", SaltPool::new, (y, v) -> y.lay(v), 0, 0, BAD, BAD, BAD, BAD);
        bound("lay 0, of six ships", Scenes::full, (y, v) -> Math.min(1, y.lay(v)), 1, 63, 1, 1, BAD, BAD);
        CHECK.section("promise 23");
        busy("laid 0", (y, v) -> y.laid(v, 0), 0, 2, 1, NOT, BAD, BAD);
        // ship 1 on days 0 and 1 is first
        busy("laid 1", (y, v) -> y.laid(1, v), 0, 3, 0, 7, BAD, BAD);
    }

    private static void sheets() {
        CHECK.section("promise 25");
        busy("sheet 0", (x, v) -> x.sheet(v, 0, 7), 0, 3, 7, 7, BAD, BAD);
        busy("sheet 1", (x, v) -> x.sheet(0, v, 7), 0, 2, 7, 7, BAD, BAD);
        for (int lane = 0; lane < 3; lane++) {
            int of = lane;
            busy("sheet 2, lane " + lane, (x, v) -> x.sheet(0, of, v), 0, 60, 0, 60, SIZE, BAD);
        }
        SEEN.add("sheet 2");
        CHECK.section("promise 26");
        busy("drop 0", (x, v) -> x.drop(v), 0, 3, 5, NULL, BAD, BAD);
    }

    private static void item() {
        CHECK.section("promise 27");
        busy("item 0", (x, v) -> x.item(v, 0, 0, 1), 0, 3, 1, NULL, BAD, BAD);
        busy("item 1", (x, v) -> x.item(0, v, 0, 1), 0, 2, 1, CAST, BAD, BAD);
        busy("item 2, bytes", (x, v) -> x.item(0, 0, v, 1), 0, 4, 1, 1, INDEX, INDEX);
        busy("item 2, shorts", (x, v) -> x.item(1, 1, v, 1), 0, 3, 1, 1, INDEX, INDEX);
        busy("item 2, ints", (x, v) -> x.item(2, 2, v, 1), 0, 2, 1, 1, INDEX, INDEX);
        bound("item 2, of 60", Scenes::full, (x, v) -> x.item(0, 0, v, 1), 0, 59, 1, 1, INDEX, INDEX);
        for (int i : new int[] {-1, 0, 1}) {
            SaltPool x = new SaltPool();
            x.sheet(0, 1, 0);
            CHECK.due("item " + i + " of none", x.item(0, 1, i, 1), INDEX);
        }
        for (int lane = 0; lane < 3; lane++) {
            int of = lane;
            busy("item 3, lane " + lane, (x, v) -> x.item(of, of, 0, v), -1, 10, 1, 1, 1, 1);
        }
    }

    private static void copy() {
        CHECK.section("promise 28");
        busy("copy 0", (x, v) -> x.copy(v, 0, 0, 0, 1), 0, 3, 1, NULL, BAD, BAD);
        busy("copy 1", (x, v) -> x.copy(0, v, 0, 0, 2), 0, 3, 2, 2, INDEX, INDEX);
        busy("copy 1, none", (x, v) -> x.copy(0, v, 0, 0, 0), 0, 5, 0, 0, INDEX, INDEX);
        busy("copy 1, all", (x, v) -> x.copy(0, v, 0, 0, 5), 0, 0, 5, 5, INDEX, INDEX);
        busy("copy 2", (x, v) -> x.copy(0, 0, v, 0, 1), 0, 3, 1, NULL, BAD, BAD);
        busy("copy 3", (x, v) -> x.copy(0, 0, 0, v, 2), 0, 3, 2, 2, INDEX, INDEX);
        busy("copy 3, none", (x, v) -> x.copy(0, 0, 0, v, 0), 0, 5, 0, 0, INDEX, INDEX);
        busy("copy 3, all", (x, v) -> x.copy(0, 0, 0, v, 5), 0, 0, 5, 5, INDEX, INDEX);
        busy("copy 4", (x, v) -> x.copy(0, 0, 0, 0, v), 0, 5, 0, 5, INDEX, INDEX);
        busy("copy 4, to the end of one", (x, v) -> x.copy(0, 0, 0, 3, v), 0, 2, 0, 2, INDEX, INDEX);
        busy("copy 4, from near the other's end", (x, v) -> x.copy(0, 4, 0, 0, v), 0, 1, 0, 1, INDEX, INDEX);
        CHECK.due("sums that wrap around", Scenes.busy().copy(0, MOST, 0, MOST, MOST), INDEX);
        CHECK.due("sums that wrap around to 0", Scenes.busy().copy(0, MOST, 0, 0, LEAST), INDEX);
        CHECK.due("sums that wrap around to 0", Scenes.busy().copy(0, LEAST, 0, LEAST, LEAST), INDEX);
        CHECK.due("sums that wrap around", Scenes.busy().copy(0, 1, 0, 1, MOST), INDEX);
    }

    private static void allNumbersAreSeen() {
        CHECK.section("all numbers");
        for (java.lang.reflect.Method method : SaltPool.class.getMethods()) {
            Class<?>[] types = method.getParameterTypes();
            for (int k = 0; k < types.length && method.getDeclaringClass() == SaltPool.class; k++) {
                String number = method.getName() + " " + k;
                CHECK.holds("the bounds of " + number + " are looked at",
                        types[k] == boolean.class || SEEN.contains(number));
            }
        }
    }
}
