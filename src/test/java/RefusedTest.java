import java.util.List;
import java.util.function.Supplier;

/**
 * "What answers so changes nothing, but as told": each refused call is made on one of two like objects, and then both
 * are asked for all that can be asked. Calls that only ask must change nothing either.
 */
public final class RefusedTest {
    private static final Check CHECK = new Check("RefusedTest");
    private static final int BAD = -1, NOT = -2, FULL = -3, NULL = -11, CAST = -12, INDEX = -13, SIZE = -14;
    private static final int NO_QUOTA = -10000001;
    private static final int LEAST = Integer.MIN_VALUE;
    private static final int MOST = Integer.MAX_VALUE;

    private interface Call {
        int on(SaltPool x);
    }

    private static Supplier<SaltPool> scene = Scenes::busy;

    public static void main(String[] args) {
        theProbeSees();
        worksAndLots();
        pool();
        entries();
        typed();
        parts();
        ships();
        loads();
        surf();
        lay();
        sheets();
        copies();
        whenFull();
        whenNew();
        asking();
        CHECK.close();
    }

    private static void unchanged(String name, int want, Call call) {
        SaltPool asked = scene.get();
        CHECK.due(name, call.on(asked), want);
        CHECK.due(name + ", again", call.on(asked), want);
        same(name, asked, scene.get());
    }

    private static void same(String name, SaltPool one, SaltPool other) {
        List<String> is = Probe.of(one);
        List<String> due = Probe.of(other);
        CHECK.due(name + ": answers behind it", is.size(), due.size());
        for (int k = 0; k < Math.min(is.size(), due.size()); k++) {
            if (!is.get(k).equals(due.get(k))) {
                CHECK.holds(name + " changed nothing: " + is.get(k) + " but was to be " + due.get(k), false);
                return;
            }
        }
    }

    /** A probe that is blind to a change would let all the rest pass. */
    private static void theProbeSees() {
        CHECK.section("the probe");
        Call[] changes = {
            x -> x.works(1), x -> x.weeks(1), x -> x.lot(0, 1, 1), x -> x.rail(0, 1), x -> x.total(1), x -> x.lend(1, 0, 1),
            x -> x.shut(1, true, 0), x -> x.type('4', 1), x -> x.parts(), x -> x.ship(0, 1, 1, 0, 0),
            x -> x.load(0, 0, 1), x -> x.load(0, 1, 1), x -> x.surf(0, 2, 2, 0, 1), x -> x.bar(2), x -> x.lay(1),
            x -> x.sheet(3, 0, 0), x -> x.sheet(0, 0, 5), x -> x.sheet(0, 1, 5), x -> x.drop(1), x -> x.item(1, 1, 3, 7),
            x -> x.copy(0, 0, 0, 1, 1),
        };
        for (int k = 0; k < changes.length; k++) {
            SaltPool changed = Scenes.busy();
            CHECK.holds("change " + k + " is none that is refused", changes[k].on(changed) >= 0 || k == 8);
            CHECK.holds("change " + k + " is seen", !Probe.of(changed).equals(Probe.of(Scenes.busy())));
        }
    }

    private static void worksAndLots() {
        CHECK.section("promise 2");
        for (int part : new int[] {0, -1, 1001, LEAST, MOST}) {
            unchanged("works(" + part + ")", BAD, x -> x.works(part));
        }
        CHECK.section("promise 3");
        for (int n : new int[] {-1, -7, 45, 52, LEAST, MOST}) {
            unchanged("weeks(" + n + ")", BAD, x -> x.weeks(n));
        }
        CHECK.section("promise 4");
        unchanged("lot of works -1", BAD, x -> x.lot(-1, 1, 1));
        unchanged("lot of works 3", BAD, x -> x.lot(3, 1, 1));
        unchanged("lot of grade -1", BAD, x -> x.lot(0, -1, 1));
        unchanged("lot of grade 1001", BAD, x -> x.lot(0, 1001, 1));
        unchanged("lot of 0 sacks", BAD, x -> x.lot(0, 1, 0));
        unchanged("lot of 10001 sacks", BAD, x -> x.lot(0, 1, 10001));
        CHECK.section("promise 5");
        unchanged("rail of lot -1", BAD, x -> x.rail(-1, 1));
        unchanged("rail of lot 3", BAD, x -> x.rail(3, 1));
        unchanged("rail of 0 sacks", BAD, x -> x.rail(0, 0));
        unchanged("rail of -1 sacks", BAD, x -> x.rail(0, -1));
        unchanged("rail of the least int", BAD, x -> x.rail(0, LEAST));
        unchanged("rail of 31 sacks of 30", NOT, x -> x.rail(0, 31));
        unchanged("rail of 1 sack of 0", NOT, x -> x.rail(1, 1));
        unchanged("rail of the greatest int", NOT, x -> x.rail(0, MOST));
    }

    private static void pool() {
        CHECK.section("promise 7");
        for (int n : new int[] {-1, 1000001, LEAST, MOST}) {
            unchanged("total(" + n + ")", BAD, x -> x.total(n));
        }
        CHECK.section("promise 8");
        unchanged("lend from -1", BAD, x -> x.lend(-1, 0, 1));
        unchanged("lend from 3", BAD, x -> x.lend(3, 0, 1));
        unchanged("lend to -1", BAD, x -> x.lend(0, -1, 1));
        unchanged("lend to 3", BAD, x -> x.lend(0, 3, 1));
        for (int w = 0; w < 3; w++) {
            int itself = w;
            unchanged("lend from " + w + " to itself", BAD, x -> x.lend(itself, itself, 1));
        }
        for (int n : new int[] {0, -1, 100001, LEAST, MOST}) {
            unchanged("lend " + n, BAD, x -> x.lend(0, 1, n));
        }
        unchanged("lend 211 of 260 less 50 shipped", NOT, x -> x.lend(0, 1, 211));
        unchanged("lend 521 of 540 less 20 shipped", NOT, x -> x.lend(1, 0, 521));
        unchanged("lend 100000", NOT, x -> x.lend(0, 1, 100000));
    }

    private static void entries() {
        CHECK.section("promise 9");
        for (boolean is : new boolean[] {true, false}) {
            unchanged("shut works -1", BAD, x -> x.shut(-1, is, 0));
            unchanged("shut works 3", BAD, x -> x.shut(3, is, 0));
            unchanged("shut from week -1", BAD, x -> x.shut(0, is, -1));
            unchanged("shut from week 52", BAD, x -> x.shut(0, is, 52));
        }
        CHECK.section("promise 10");
        unchanged("open of works 3", BAD, x -> x.open(3, 0, 0));
        unchanged("open as of week 52", BAD, x -> x.open(0, 52, 0));
        unchanged("open as of 4 entries", BAD, x -> x.open(0, 0, 4));
        CHECK.section("promise 11");
        unchanged("quota of works -1", NO_QUOTA, x -> x.quota(-1, 0, 0));
        unchanged("quota as of week -1", NO_QUOTA, x -> x.quota(0, -1, 0));
        unchanged("quota as of -1 entries", NO_QUOTA, x -> x.quota(0, 0, -1));
        CHECK.section("promise 12");
        unchanged("left of works -1", BAD, x -> x.left(-1));
        unchanged("left of works 3", BAD, x -> x.left(3));
    }

    private static void typed() {
        CHECK.section("promise 13");
        for (int n : new int[] {0, -1, 9, LEAST, MOST}) {
            unchanged("type of " + n + " bytes", BAD, x -> x.type(0x3030303030303030L, n));
        }
        unchanged("type with a first byte of 31", BAD, x -> x.type(0x1F30L, 2));
        unchanged("type with a last byte of 127", BAD, x -> x.type(0x307FL, 2));
        unchanged("type of the least long", BAD, x -> x.type(Long.MIN_VALUE, 8));
        unchanged("type of the greatest long", BAD, x -> x.type(Long.MAX_VALUE, 8));
    }

    /** A fault empties the tape, as told, and changes nothing else. */
    private static void parts() {
        CHECK.section("promise 14");
        String[] texts = {"", " ", "0:5,1:6,2:7,", "0:5,1:6,3:1", "0:5,1:1001", "0:5;", "0:5,1:5,0:0", "2:5 5"};
        int[] places = {0, 1, 12, 8, 6, 3, 10, 4};
        for (int k = 0; k < texts.length; k++) {
            SaltPool faulty = Scenes.busy();
            SaltPool empty = Scenes.busy();
            faulty.parts();
            empty.parts();
            Tapes.type(faulty, texts[k]);
            CHECK.due("parts() of '" + texts[k] + "'", faulty.parts(), -20 - places[k]);
            same("parts() of '" + texts[k] + "'", faulty, empty);
        }
        SaltPool x = Scenes.busy();
        CHECK.due("parts() of '1:9,0:'", x.parts(), -26);
        CHECK.due("the tape is empty behind a fault", x.type('0', 1), 1);
        CHECK.due("its fault is of the new text alone", x.parts(), -21);
        Tapes.type(x, "0:1");
        CHECK.due("parts()", x.parts(), 1);
        CHECK.due("the tape is empty behind a text", x.type('0', 1), 1);
    }

    private static void ships() {
        CHECK.section("promise 15");
        unchanged("ship on day -1", BAD, x -> x.ship(-1, 1, 1, 0, 0));
        unchanged("ship on day 60", BAD, x -> x.ship(60, 1, 1, 0, 0));
        unchanged("ship of room 0", BAD, x -> x.ship(0, 0, 1, 0, 0));
        unchanged("ship of room 20001", BAD, x -> x.ship(0, 20001, 1, 0, 0));
        unchanged("ship of rate 0", BAD, x -> x.ship(0, 1, 0, 0, 0));
        unchanged("ship of rate 2001", BAD, x -> x.ship(0, 1, 2001, 0, 0));
        unchanged("ship of lay -1", BAD, x -> x.ship(0, 1, 1, -1, 0));
        unchanged("ship of lay 31", BAD, x -> x.ship(0, 1, 1, 31, 0));
        unchanged("ship of due -1", BAD, x -> x.ship(0, 1, 1, 0, -1));
        unchanged("ship of due 101", BAD, x -> x.ship(0, 1, 1, 0, 101));
    }

    private static void loads() {
        CHECK.section("promise 16");
        unchanged("load into ship -1", BAD, x -> x.load(-1, 0, 1));
        unchanged("load into ship 3", BAD, x -> x.load(3, 0, 1));
        unchanged("load of lot -1", BAD, x -> x.load(0, -1, 1));
        unchanged("load of lot 3", BAD, x -> x.load(0, 3, 1));
        for (int sacks : new int[] {0, -1, LEAST}) {
            unchanged("load of " + sacks + " sacks", BAD, x -> x.load(0, 0, sacks));
        }
        unchanged("load of 41 sacks of 40 at the port", NOT, x -> x.load(2, 0, 41));
        unchanged("load of 31 sacks into room for 30", NOT, x -> x.load(0, 0, 31));
        unchanged("load of the greatest int", NOT, x -> x.load(0, 0, MOST));
        Supplier<SaltPool> was = scene;
        scene = () -> {
            SaltPool x = Scenes.busy();
            x.lend(0, 1, 204);
            return x;
        };
        unchanged("load of 7 sacks with 6 left", NOT, x -> x.load(2, 0, 7));
        scene = was;
        CHECK.section("promise 17");
        unchanged("held of ship 3", BAD, x -> x.held(3, 0));
        unchanged("held of lot -2", BAD, x -> x.held(0, -2));
        unchanged("held of lot 3", BAD, x -> x.held(0, 3));
        CHECK.section("promise 18");
        unchanged("grade of ship 3", BAD, x -> x.grade(3));
        unchanged("grade of an empty hold", NOT, x -> x.grade(2));
    }

    private static void surf() {
        CHECK.section("promise 19");
        unchanged("surf on day -1", BAD, x -> x.surf(-1, 0, 0, 0, 1));
        unchanged("surf on day 60", BAD, x -> x.surf(60, 0, 0, 0, 0));
        unchanged("surf of sheet 4", BAD, x -> x.surf(0, 4, 0, 0, 1));
        unchanged("surf of lane 3", BAD, x -> x.surf(0, 0, 3, 0, 1));
        unchanged("surf of -1 items", BAD, x -> x.surf(0, 0, 0, 0, -1));
        unchanged("surf up to day 60", BAD, x -> x.surf(58, 0, 0, 0, 3));
        unchanged("surf of nothing", NULL, x -> x.surf(0, 3, 0, 0, 1));
        unchanged("surf of another lane", CAST, x -> x.surf(0, 0, 2, 0, 1));
        unchanged("surf from -1 on", INDEX, x -> x.surf(0, 0, 0, -1, 3));
        unchanged("surf over the end", INDEX, x -> x.surf(0, 0, 0, 3, 3));
        unchanged("surf with a last item of 12", NOT, x -> x.surf(0, 2, 2, 0, 3));
        CHECK.section("promise 20");
        unchanged("sea(-1)", BAD, x -> x.sea(-1));
        unchanged("sea(60)", BAD, x -> x.sea(60));
        CHECK.section("promise 21");
        for (int b : new int[] {-1, 10, LEAST, MOST}) {
            unchanged("bar(" + b + ")", BAD, x -> x.bar(b));
        }
    }

    private static void lay() {
        CHECK.section("promise 22");
        for (int ships : new int[] {0, 8, 9, 15, 64, -1, LEAST, MOST}) {
            unchanged("lay(" + ships + ")", BAD, x -> x.lay(ships));
        }
        Supplier<SaltPool> was = scene;
        scene = () -> {
            SaltPool x = Scenes.busy();
            x.bar(0);
            return x;
        };
        unchanged("lay(7) where no day lets load", NOT, x -> x.lay(7));
        scene = was;
        CHECK.section("promise 23");
        unchanged("laid of ship -1", BAD, x -> x.laid(-1, 0));
        unchanged("laid of ship 3", BAD, x -> x.laid(3, 0));
        unchanged("laid, -1", BAD, x -> x.laid(0, -1));
        unchanged("laid, 4", BAD, x -> x.laid(0, 4));
        unchanged("laid of a ship that is not among them", NOT, x -> x.laid(2, 0));
        CHECK.section("promise 24");
        unchanged("count(-1)", BAD, x -> x.count(-1));
        unchanged("count(8)", BAD, x -> x.count(8));
        CHECK.section("promise 6");
        unchanged("told of lot 3", BAD, x -> x.told(3, 0));
        unchanged("told, 6", BAD, x -> x.told(0, 6));
    }

    private static void sheets() {
        CHECK.section("promise 25");
        unchanged("sheet 4", BAD, x -> x.sheet(4, 0, 1));
        unchanged("sheet of lane 3", BAD, x -> x.sheet(0, 3, 1));
        unchanged("sheet of 61 items", BAD, x -> x.sheet(0, 0, 61));
        unchanged("sheet of the greatest int", BAD, x -> x.sheet(0, 0, MOST));
        for (int sheet = 0; sheet < 4; sheet++) {
            int of = sheet;
            unchanged("sheet " + sheet + " of -1 items", SIZE, x -> x.sheet(of, 1, -1));
            unchanged("sheet " + sheet + " of the least int", SIZE, x -> x.sheet(of, 2, LEAST));
        }
        CHECK.section("promise 26");
        unchanged("drop(-1)", BAD, x -> x.drop(-1));
        unchanged("drop(4)", BAD, x -> x.drop(4));
        unchanged("drop of nothing", NULL, x -> x.drop(3));
        CHECK.section("promise 27");
        unchanged("item of sheet 4", BAD, x -> x.item(4, 0, 0, 8));
        unchanged("item of lane 3", BAD, x -> x.item(0, 3, 0, 8));
        unchanged("item of nothing", NULL, x -> x.item(3, 0, 0, 8));
        unchanged("item of another lane", CAST, x -> x.item(0, 1, 0, 8));
        unchanged("item of another lane", CAST, x -> x.item(2, 0, 0, 8));
        unchanged("item -1", INDEX, x -> x.item(0, 0, -1, 8));
        unchanged("item 5 of 5", INDEX, x -> x.item(0, 0, 5, 8));
    }

    private static void copies() {
        CHECK.section("promise 28");
        unchanged("copy from sheet 4", BAD, x -> x.copy(4, 0, 0, 0, 1));
        unchanged("copy to sheet 4", BAD, x -> x.copy(0, 0, 4, 0, 1));
        unchanged("copy from nothing", NULL, x -> x.copy(3, 0, 0, 0, 1));
        unchanged("copy to nothing", NULL, x -> x.copy(0, 0, 3, 0, 1));
        unchanged("copy of unlike lanes", CAST, x -> x.copy(0, 0, 1, 0, 1));
        unchanged("copy from -1 on", INDEX, x -> x.copy(0, -1, 0, 1, 2));
        unchanged("copy to -1 on", INDEX, x -> x.copy(0, 1, 0, -1, 2));
        unchanged("copy over from's end", INDEX, x -> x.copy(0, 3, 0, 0, 3));
        unchanged("copy over to's end", INDEX, x -> x.copy(0, 0, 0, 3, 3));
        unchanged("copy of -1 items", INDEX, x -> x.copy(0, 1, 0, 2, -1));
        unchanged("copy of the greatest int", INDEX, x -> x.copy(0, 0, 0, 1, MOST));
    }

    private static void whenFull() {
        CHECK.section("full");
        scene = Scenes::full;
        SaltPool x = Scenes.full();
        int[] most = {8, 60, 100, 6, 51};
        for (int what = 0; what < most.length; what++) {
            CHECK.due("count(" + what + ")", x.count(what), most[what]);
        }
        unchanged("a ninth works", FULL, y -> y.works(1));
        unchanged("lot 60", FULL, y -> y.lot(0, 1, 1));
        unchanged("lend, entry 100", FULL, y -> y.lend(3, 0, 1));
        unchanged("shut, entry 100", FULL, y -> y.shut(0, true, 0));
        unchanged("opened, entry 100", FULL, y -> y.shut(0, false, 51));
        unchanged("byte 71", FULL, y -> y.type('1', 1));
        unchanged("bytes 71 to 78", FULL, y -> y.type(0x3131313131313131L, 8));
        unchanged("a seventh ship", FULL, y -> y.ship(0, 1, 1, 0, 0));
        unchanged("a week beyond", BAD, y -> y.weeks(1));
        unchanged("room for 0", NOT, y -> y.load(5, 59, 1));
        unchanged("an item behind 59", INDEX, y -> y.item(3, 0, 60, 1));
        CHECK.due("the full tape is a text still", x.parts(), 1);
        scene = () -> {
            SaltPool y = Scenes.full();
            y.parts();
            Tapes.type(y, "0:1," + " ".repeat(59));
            return y;
        };
        CHECK.due("63 and 7", scene.get().type(0x20202020202020L, 7), 70);
        unchanged("63 and 8", FULL, y -> y.type(0x2020202020202020L, 8));
        scene = Scenes::busy;
    }

    private static void whenNew() {
        CHECK.section("new");
        scene = SaltPool::new;
        unchanged("lot", BAD, x -> x.lot(0, 1, 1));
        unchanged("rail", BAD, x -> x.rail(0, 1));
        unchanged("told", BAD, x -> x.told(0, 0));
        unchanged("lend", BAD, x -> x.lend(0, 1, 1));
        unchanged("shut", BAD, x -> x.shut(0, true, 0));
        unchanged("open", BAD, x -> x.open(0, 0, 0));
        unchanged("quota", NO_QUOTA, x -> x.quota(0, 0, 0));
        unchanged("left", BAD, x -> x.left(0));
        unchanged("parts", -20, x -> x.parts());
        unchanged("load", BAD, x -> x.load(0, 0, 1));
        unchanged("held", BAD, x -> x.held(0, -1));
        unchanged("grade", BAD, x -> x.grade(0));
        unchanged("surf", NULL, x -> x.surf(0, 0, 0, 0, 1));
        unchanged("lay", BAD, x -> x.lay(1));
        unchanged("laid", BAD, x -> x.laid(0, 0));
        unchanged("drop", NULL, x -> x.drop(0));
        unchanged("item", NULL, x -> x.item(0, 0, 0, 1));
        unchanged("copy", NULL, x -> x.copy(0, 0, 1, 0, 1));
        scene = Scenes::busy;
    }

    /** Their answers are held elsewhere; here it counts that the second is as the first, and nothing changed. */
    private static void asking() {
        CHECK.section("calls that only ask");
        SaltPool x = Scenes.busy();
        unchanged("told", x.told(0, 2), y -> y.told(0, 2));
        unchanged("open", x.open(2, 25, 3), y -> y.open(2, 25, 3));
        unchanged("quota", x.quota(1, 25, 3), y -> y.quota(1, 25, 3));
        unchanged("left", x.left(1), y -> y.left(1));
        unchanged("held", x.held(0, 1), y -> y.held(0, 1));
        unchanged("grade", x.grade(0), y -> y.grade(0));
        unchanged("sea", x.sea(5), y -> y.sea(5));
        unchanged("laid", x.laid(0, 2), y -> y.laid(0, 2));
        unchanged("count", x.count(5), y -> y.count(5));
        unchanged("weeks of none", x.weeks(0), y -> y.weeks(0));
        unchanged("surf of none", 0, y -> y.surf(0, 0, 0, 0, 0));
        unchanged("copy of none", 0, y -> y.copy(0, 0, 0, 1, 0));
        unchanged("copy onto itself", 5, y -> y.copy(0, 0, 0, 0, 5));
        unchanged("the same total", 1000, y -> y.total(1000));
        unchanged("the same bar", 6, y -> y.bar(6));
        unchanged("the same item", 1, y -> y.item(0, 0, 4, 6));
    }
}
