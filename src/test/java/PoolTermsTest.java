/** The sentences of the document's Terms 1 and 2, each at its boundary cases: works, lots, the pool, its texts. */
public final class PoolTermsTest {
    private static final Check CHECK = new Check("PoolTermsTest");
    private static final int NOT = -2;

    public static void main(String[] args) {
        asTheyCome();
        lotsAreMadeNow();
        firstInThePit();
        partedRests();
        partedLeastAndMost();
        partedAmongNone();
        entriesHoldFromAWeekOn();
        entriesBelowN();
        latestOfShutAndOpened();
        shareOfShutWorks();
        zeroFirst();
        lentIsMoreAndLess();
        quotaLeast();
        shippedIsOfTheWorks();
        leftIsNotBelow0();
        textsByteByByte();
        textsOfNumbers();
        textsOfPairs();
        textsOnFullTapes();
        textsHold();
        CHECK.close();
    }

    private static void quotas(String when, SaltPool x, int week, int n, int... wanted) {
        for (int w = 0; w < wanted.length; w++) {
            CHECK.due(when + ": quota(" + w + ", " + week + ", " + n + ")", x.quota(w, week, n), wanted[w]);
        }
    }

    private static void asTheyCome() {
        CHECK.section("WORKS 0 .. 7, LOTS 0 .. 59, ENTRIES 0 .. 99, SHIPS 0 .. 5, as they come");
        SaltPool x = new SaltPool();
        for (int w = 0; w < 8; w++) {
            CHECK.due("works " + w + " is not yet there", x.left(w), -1);
            CHECK.due("works " + w, x.works(1), w);
            CHECK.due("works " + w + " is there", x.left(w), 0);
            x.works(0);
        }
        for (int lot = 0; lot < 60; lot++) {
            CHECK.due("lot " + lot + " is not yet there", x.told(lot, 0), -1);
            CHECK.due("lot " + lot, x.lot(lot % 8, 0, 1), lot);
            CHECK.due("lot " + lot + " is there", x.told(lot, 0), lot % 8);
        }
        for (int ship = 0; ship < 6; ship++) {
            CHECK.due("ship " + ship + " is not yet there", x.held(ship, -1), -1);
            CHECK.due("ship " + ship, x.ship(0, 1, 1, 0, 0), ship);
            CHECK.due("ship " + ship + " is there", x.held(ship, -1), 0);
        }
        SaltPool y = Scenes.pool(100, 1, 1);
        for (int entry = 0; entry < 100; entry++) {
            CHECK.due("entry " + entry + " does not yet count", y.open(0, 0, entry + 1), -1);
            int made = entry % 3 == 0 ? y.lend(0, 1, 1) : y.shut(entry % 2, entry % 3 == 1, 40);
            CHECK.due("entry " + entry, made, entry);
        }
        CHECK.due("all of them count", y.open(0, 0, 100), 1);
    }

    private static void lotsAreMadeNow() {
        CHECK.section("LOTS are made NOW (0 at first)");
        SaltPool x = Scenes.pool(0, 1);
        x.lot(0, 0, 1);
        x.weeks(51);
        x.lot(0, 1000, 10000);
        CHECK.due("a lot of the first week", x.told(0, 5), 0);
        CHECK.due("a lot of the last week", x.told(1, 5), 51);
        CHECK.due("the least grade", x.told(0, 1), 0);
        CHECK.due("the greatest grade", x.told(1, 1), 1000);
        CHECK.due("the fewest sacks", x.told(0, 2), 1);
        CHECK.due("the most sacks", x.told(1, 2), 10000);
    }

    private static void firstInThePit() {
        CHECK.section("first in the PIT, then at the PORT, then in holds of SHIPS (all, or some of them)");
        SaltPool x = Scenes.pool(1000000, 1);
        x.lot(0, 5, 10000);
        x.ship(0, 9999, 1, 0, 0);
        x.ship(0, 20000, 1, 0, 0);
        CHECK.due("none at the port", x.load(0, 0, 1), NOT);
        CHECK.due("all but one to the port", x.rail(0, 9999), 1);
        CHECK.due("the one from the pit can't be loaded", x.load(1, 0, 10000), NOT);
        CHECK.due("all that are at the port", x.load(0, 0, 9999), 9999);
        CHECK.due("the last one to the port", x.rail(0, 1), 0);
        CHECK.due("no room for it", x.load(0, 0, 1), NOT);
        CHECK.due("another ship has room", x.load(1, 0, 1), 1);
        int[] told = {0, 5, 0, 0, 10000, 0};
        for (int what = 0; what < 6; what++) {
            CHECK.due("told(0, " + what + ")", x.told(0, what), told[what]);
        }
        CHECK.due("count(5)", x.count(5), 0);
        CHECK.due("count(6)", x.count(6), 0);
        CHECK.due("count(7)", x.count(7), 10000);
        SaltPool y = Scenes.pool(1000000, 1);
        for (int lot = 0; lot < 60; lot++) {
            y.lot(0, 0, 10000);
        }
        CHECK.due("the most in pits", y.count(5), 600000);
        for (int lot = 0; lot < 60; lot++) {
            y.rail(lot, 10000);
        }
        CHECK.due("the most at the port", y.count(6), 600000);
    }

    private static void partedRests() {
        CHECK.section("1 more each for those of the greatest rest (of like ones the lesser), till all is parted");
        quotas("none over", Scenes.pool(16, 1, 1, 1, 1, 1, 1, 1, 1), 0, 0, 2, 2, 2, 2, 2, 2, 2, 2);
        quotas("one over", Scenes.pool(17, 1, 1, 1, 1, 1, 1, 1, 1), 0, 0, 3, 2, 2, 2, 2, 2, 2, 2);
        quotas("seven over", Scenes.pool(23, 1, 1, 1, 1, 1, 1, 1, 1), 0, 0, 3, 3, 3, 3, 3, 3, 3, 2);
        quotas("one among eight", Scenes.pool(1, 1, 1, 1, 1, 1, 1, 1, 1), 0, 0, 1, 0, 0, 0, 0, 0, 0, 0);
        // by 12: 0 rest 5, 0 rest 10, 1 rest 3, 1 rest 8, 0 rest 10: three over
        quotas("the three greatest, not the first", Scenes.pool(5, 1, 2, 3, 4, 2), 0, 0, 0, 1, 1, 2, 1);
        // 1 by 3 of 10: rests 3, 3, 4: the last has the greatest
        quotas("the last", Scenes.pool(1, 3, 3, 4), 0, 0, 0, 0, 1);
        quotas("of like ones the lesser, though it is no first", Scenes.pool(1, 3, 4, 4), 0, 0, 0, 1, 0);
        // 3 by 4, 4, 1: 12 by 9 rest 3, 3, 3: two over
        quotas("like rests of unlike shares", Scenes.pool(3, 4, 4, 1), 0, 0, 2, 1, 0);
        quotas("a rest of 0 gets none", Scenes.pool(7, 5, 10, 5), 0, 0, 2, 3, 2);
    }

    private static void partedLeastAndMost() {
        CHECK.section("a number times a PART, by all these PARTS: the least and the most");
        quotas("0", Scenes.pool(0, 1000, 1), 0, 0, 0, 0);
        quotas("1", Scenes.pool(1, 1000, 1), 0, 0, 1, 0);
        quotas("the most by the least and the most", Scenes.pool(1000000, 1, 1000), 0, 0, 999, 999001);
        quotas("the most by eight of the most, but for one", Scenes.pool(1000000, 1000, 1000, 1000, 1000, 1000, 1000, 1000,
                999), 0, 0, 125016, 125016, 125016, 125016, 125016, 125015, 125015, 124890);
        quotas("the most for one", Scenes.pool(1000000, 1000), 0, 0, 1000000);
        quotas("the most for one of the least", Scenes.pool(1000000, 1), 0, 0, 1000000);
        SaltPool x = Scenes.pool(1000000, 1000, 1000);
        x.shut(0, true, 0);
        quotas("a share, parted once more", x, 0, 1, 0, 1000000);
    }

    private static void partedAmongNone() {
        CHECK.section("(among none nothing is)");
        SaltPool x = Scenes.pool(100, 1);
        x.shut(0, true, 0);
        quotas("one, shut", x, 0, 1, 0);
        CHECK.due("left(0)", x.left(0), 0);
        SaltPool y = Scenes.pool(1000000, 1, 2, 3, 4, 5, 6, 7, 8);
        for (int w = 0; w < 8; w++) {
            y.shut(w, true, 0);
        }
        quotas("eight, all shut", y, 0, 8, 0, 0, 0, 0, 0, 0, 0, 0);
        quotas("eight, all shut but the last", y, 0, 7, 0, 0, 0, 0, 0, 0, 0, 1000000);
        SaltPool z = Scenes.pool(100, 1, 1);
        z.lend(0, 1, 50);
        z.shut(0, true, 0);
        z.shut(1, true, 0);
        quotas("all shut, what was lent stays", z, 0, 3, -50, 50);
        CHECK.due("shut works may ship what they were lent", z.left(1), 50);
        CHECK.due("and lend it", z.lend(1, 0, 50), 3);
        CHECK.due("but not more", z.lend(1, 0, 1), NOT);
    }

    private static void entriesHoldFromAWeekOn() {
        CHECK.section("AS OF a WEEK: those of that WEEK or ahead count");
        int[] weeks = {0, 1, 50, 51};
        for (int week : weeks) {
            SaltPool x = Scenes.pool(100, 1, 1);
            x.shut(0, true, week);
            for (int asOf = 0; asOf <= 51; asOf++) {
                CHECK.due("shut from " + week + ": open(0, " + asOf + ", 1)", x.open(0, asOf, 1), asOf < week ? 1 : 0);
                CHECK.due("shut from " + week + ": quota(0, " + asOf + ", 1)", x.quota(0, asOf, 1), asOf < week ? 50 : 0);
            }
            SaltPool y = Scenes.pool(100, 1, 1);
            y.weeks(week);
            y.lend(0, 1, 20);
            for (int asOf = 0; asOf <= 51; asOf++) {
                CHECK.due("lent from " + week + ": quota(1, " + asOf + ", 1)", y.quota(1, asOf, 1), asOf < week ? 50 : 70);
            }
        }
    }

    private static void entriesBelowN() {
        CHECK.section("AS OF n: those that are below n");
        SaltPool x = Scenes.pool(100, 1, 1);
        for (int entry = 0; entry < 100; entry++) {
            x.lend(entry % 2, 1 - entry % 2, 1 + entry % 2);
        }
        int quota = 50;
        for (int n = 0; n <= 100; n++) {
            CHECK.due("quota(0, 0, " + n + ")", x.quota(0, 0, n), quota);
            quota += n % 2 == 0 ? -1 : 2;
        }
        CHECK.due("quota(0, 0, 101)", x.quota(0, 0, 101), -10000001);
    }

    private static void latestOfShutAndOpened() {
        CHECK.section("the one that counts with the latest WEEK (of like ones the later one)");
        SaltPool x = Scenes.pool(100, 1, 1);
        x.shut(0, true, 10);
        x.shut(0, false, 9);
        x.shut(0, false, 11);
        x.shut(0, true, 11);
        x.shut(0, false, 51);
        x.shut(0, true, 0);
        int[][] wanted = {
            {9, 1, 1}, {10, 1, 0}, {9, 2, 1}, {10, 2, 0}, {11, 2, 0}, {11, 3, 1}, {10, 3, 0}, {11, 4, 0}, {51, 4, 0},
            {51, 5, 1}, {50, 5, 0}, {8, 5, 1}, {0, 5, 1}, {0, 6, 0}, {8, 6, 0}, {9, 6, 1}, {51, 6, 1},
        };
        for (int[] asked : wanted) {
            CHECK.due("open(0, " + asked[0] + ", " + asked[1] + ")", x.open(0, asked[0], asked[1]), asked[2]);
        }
        CHECK.due("of others it tells nothing", x.open(1, 51, 6), 1);
        SaltPool y = Scenes.pool(100, 1);
        y.shut(0, false, 0);
        CHECK.due("opened and never shut", y.open(0, 0, 1), 1);
        y.shut(0, true, 0);
        y.shut(0, true, 0);
        y.shut(0, false, 0);
        CHECK.due("shut twice, opened once", y.open(0, 0, 4), 1);
    }

    private static void shareOfShutWorks() {
        CHECK.section("its share is PARTED among all that are OPEN, added to theirs, and it has none");
        SaltPool x = Scenes.pool(10, 1, 1, 1);
        x.shut(2, true, 5);
        x.shut(2, false, 6);
        quotas("ahead", x, 4, 2, 4, 3, 3);
        quotas("shut", x, 5, 2, 6, 4, 0);
        quotas("opened", x, 6, 2, 4, 3, 3);
        quotas("the shut alone", x, 51, 1, 6, 4, 0);
        SaltPool y = Scenes.pool(2, 1, 1, 1);
        y.shut(2, true, 0);
        quotas("a share of 0", y, 0, 1, 1, 1, 0);
        SaltPool z = Scenes.pool(100, 1, 1);
        z.weeks(3);
        z.shut(0, true, 3);
        CHECK.due("NOW it is shut", z.left(0), 0);
        CHECK.due("the other has all", z.left(1), 100);
        CHECK.due("shut works can't lend", z.lend(0, 1, 1), NOT);
        CHECK.due("the other can lend all", z.lend(1, 0, 100), 1);
        CHECK.due("shut works may ship what they were lent", z.left(0), 100);
    }

    private static void zeroFirst() {
        CHECK.section("of each that is not OPEN, 0 first");
        // 10 by 7: 4 rest 2, 2 rest 6, 1 rest 3, 1 rest 3: 4, 3, 2, 1. 4 among works 2, 3: 2, 2; 3 among them: 2, 1
        SaltPool x = Scenes.pool(10, 3, 2, 1, 1);
        x.shut(1, true, 0);
        x.shut(0, true, 0);
        quotas("each share by itself", x, 0, 2, 0, 0, 6, 4);
        SaltPool y = Scenes.pool(9, 1, 1, 1);
        y.shut(0, true, 0);
        y.shut(1, true, 0);
        quotas("nothing goes to works that are shut too", y, 0, 2, 0, 0, 9);
    }

    private static void lentIsMoreAndLess() {
        CHECK.section("what it was LENT is more, what it LENT to others is less (QUOTAS may be below 0 so)");
        SaltPool x = Scenes.pool(300, 1, 1, 1);
        x.lend(0, 1, 100);
        quotas("to 0", x, 0, 1, 0, 200, 100);
        x.lend(1, 2, 200);
        quotas("what was lent is lent on", x, 0, 2, 0, 0, 300);
        x.lend(2, 0, 1);
        quotas("and back", x, 0, 3, 1, 0, 299);
        x.total(299);
        quotas("one less", x, 0, 3, 1, 0, 298);
        x.total(297);
        quotas("below 0", x, 0, 3, 0, -1, 298);
        CHECK.due("left is not", x.left(1), 0);
        CHECK.due("nothing can be lent of it", x.lend(1, 0, 1), NOT);
        CHECK.due("below 0, it can still be lent to", x.lend(2, 1, 2), 3);
        quotas("lent to", x, 0, 4, 0, 1, 296);
    }

    private static void quotaLeast() {
        CHECK.section("BAD: -10000001, which no quota is");
        SaltPool x = Scenes.pool(1000000, 1, 1);
        x.shut(1, true, 0);
        for (int entry = 1; entry <= 10; entry++) {
            CHECK.due("lend of the most", x.lend(0, 1, 100000), entry);
        }
        CHECK.due("nothing is left", x.lend(0, 1, 1), NOT);
        quotas("all is lent", x, 0, 11, 0, 1000000);
        x.total(0);
        quotas("the least quota", x, 0, 11, -1000000, 1000000);
        x.total(1000000);
        x.shut(1, false, 0);
        x.shut(0, true, 0);
        quotas("the greatest quota", x, 0, 13, -1000000, 2000000);
        CHECK.due("left(1)", x.left(1), 2000000);
    }

    private static void shippedIsOfTheWorks() {
        CHECK.section("SHIPPED by its WORKS: of all its lots, in all ships");
        SaltPool x = Scenes.pool(200, 1, 1);
        x.lot(0, 0, 60);
        x.lot(1, 0, 60);
        x.lot(0, 0, 60);
        for (int lot = 0; lot < 3; lot++) {
            x.rail(lot, 60);
        }
        x.ship(0, 500, 1, 0, 0);
        x.ship(0, 500, 1, 0, 0);
        x.load(0, 0, 40);
        x.load(1, 0, 10);
        CHECK.due("two ships", x.left(0), 50);
        CHECK.due("another lot of the same works, one too many", x.load(1, 2, 51), NOT);
        CHECK.due("another lot of the same works", x.load(1, 2, 50), 50);
        CHECK.due("nothing left", x.left(0), 0);
        CHECK.due("one sack of the first lot", x.load(0, 0, 1), NOT);
        CHECK.due("the other works' lot", x.load(0, 1, 60), 60);
        CHECK.due("left(1)", x.left(1), 40);
        CHECK.due("lend 41 of 40", x.lend(1, 0, 41), NOT);
        CHECK.due("lend 40", x.lend(1, 0, 40), 0);
        CHECK.due("lent quota can be shipped", x.load(0, 0, 10), 50);
        CHECK.due("left(0)", x.left(0), 30);
    }

    private static void leftIsNotBelow0() {
        CHECK.section("left: (not below 0)");
        SaltPool x = Scenes.pool(10, 1);
        x.lot(0, 0, 10);
        x.rail(0, 10);
        x.ship(0, 10, 1, 0, 0);
        x.load(0, 0, 10);
        for (int total : new int[] {11, 10, 9, 0, 1000000}) {
            x.total(total);
            CHECK.due("left(0) of " + total, x.left(0), Math.max(0, total - 10));
        }
    }

    private static int parts(SaltPool x, String text) {
        Tapes.type(x, text);
        return x.parts();
    }

    /** Each byte that can be typed, at each place where something else is awaited. */
    private static void textsByteByByte() {
        CHECK.section("FAULTS: the place of the first byte (behind blanks) that can't stand there");
        String eight = "0:1,0:1,0:1,0:1,0:1,0:1,0:1,0:1";
        for (char sign = 32; sign <= 126; sign++) {
            SaltPool x = Scenes.pool(0, 1, 1, 1);
            boolean blank = sign == ' ';
            boolean digit = sign >= '0' && sign <= '9';
            boolean works = sign >= '0' && sign <= '2';
            CHECK.due("'" + sign + "'", parts(x, "" + sign), blank || works ? -21 : -20);
            CHECK.due("' " + sign + "'", parts(x, " " + sign), blank || works ? -22 : -21);
            CHECK.due("'0" + sign + "'", parts(x, "0" + sign), blank || works || sign == ':' ? -22 : digit ? -20 : -21);
            CHECK.due("'0 " + sign + "'", parts(x, "0 " + sign), blank || sign == ':' ? -23 : -22);
            CHECK.due("'0:" + sign + "'", parts(x, "0:" + sign), blank ? -23 : digit && sign != '0' ? 1 : -22);
            CHECK.due("'0: " + sign + "'", parts(x, "0: " + sign), blank ? -24 : digit && sign != '0' ? 1 : -23);
            CHECK.due("'0:1" + sign + "'", parts(x, "0:1" + sign), blank || digit ? 1 : sign == ',' ? -24 : -23);
            CHECK.due("'0:1 " + sign + "'", parts(x, "0:1 " + sign), blank ? 1 : sign == ',' ? -25 : -24);
            CHECK.due("'0:1," + sign + "'", parts(x, "0:1," + sign), blank || works ? -25 : -24);
            CHECK.due("eight, '" + sign + "'", parts(x, eight + sign), blank || digit ? 8 : -51);
            CHECK.due("eight, ' " + sign + "'", parts(x, eight + " " + sign), blank ? 8 : -52);
        }
    }

    private static void textsOfNumbers() {
        CHECK.section("a number that is no WORKS, no PART, can't: its first byte; digits; all that stand there");
        for (int works = 1; works <= 8; works++) {
            int[] ones = new int[works];
            java.util.Arrays.fill(ones, 1);
            SaltPool x = Scenes.pool(0, ones);
            CHECK.due("the last of " + works, parts(x, (works - 1) + ":1"), 1);
            CHECK.due("the first that is none of " + works, parts(x, works + ":1"), -20);
            CHECK.due("the first that is none of " + works + ", behind another", parts(x, "0:1, " + works + ":1"), -25);
        }
        CHECK.due("there are no works", parts(new SaltPool(), "0:1"), -20);
        SaltPool x = Scenes.pool(0, 1, 1, 1);
        String[] texts = {"0:1", "0:1000", "0:999", "00000:00001", "02:01000", "2:1", "0 :1", "0: 1", "0:1 ", " 0:1",
            "0:" + "0".repeat(40) + "1000", "0".repeat(40) + "2:7"};
        for (String text : texts) {
            CHECK.due("'" + text + "'", parts(x, text), 1);
        }
        String[] faulty = {"0:0", "0:1001", "0:00", "0:01001", "0:10000", "0:2147483648", "0:2147483649", "0:4294967296",
            "0:4294967297", "0:9223372036854775809", "0:18446744073709551617", "0:" + "9".repeat(68), "0:1001,", "0:0x"};
        for (String text : faulty) {
            CHECK.due("'" + text + "'", parts(x, text), -22);
        }
        String[] first = {"3:1", "03:1", "10:1", "2147483648:1", "4294967296:1", "4294967297:1", "18446744073709551616:1",
            "9".repeat(70), "3", "3x", "-1:1", "+1:1", "3 :1", "256:1"};
        for (String text : first) {
            CHECK.due("'" + text + "'", parts(x, text), -20);
        }
        CHECK.due("a number in two pieces", parts(x, "0 0:1"), -22);
        CHECK.due("a number in two pieces", parts(x, "0:1 0"), -24);
        CHECK.due("a number in two pieces, the first of which is none", parts(x, "0:0 1"), -22);
        CHECK.due("of two faults the first", parts(x, "0:0,9:0"), -22);
        CHECK.due("of two faults the first", parts(x, "0:1,9:0"), -24);
    }

    private static void textsOfPairs() {
        CHECK.section("1 to 8 PAIRS with , between; a ninth PAIR's , can't");
        SaltPool x = Scenes.pool(0, 1, 1, 1);
        StringBuilder text = new StringBuilder();
        for (int pairs = 1; pairs <= 8; pairs++) {
            text.append(pairs > 1 ? "," : "").append("2:").append(pairs);
            CHECK.due(pairs + " pairs", parts(x, text.toString()), pairs);
            CHECK.due(pairs + " pairs and a comma", parts(x, text + ","), pairs < 8 ? -20 - 4 * pairs : -51);
            CHECK.due(pairs + " pairs, blanks and a comma", parts(x, text + "  ,"), pairs < 8 ? -22 - 4 * pairs : -53);
        }
        CHECK.due("nine pairs", parts(x, text + ",0:1"), -51);
        CHECK.due("nine pairs, the ninth faulty", parts(x, text + ",x"), -51);
        CHECK.due("no pair", parts(x, ""), -20);
        CHECK.due("a comma alone", parts(x, ","), -20);
        CHECK.due("two commas", parts(x, "0:1,,0:1"), -24);
        CHECK.due("two colons", parts(x, "0::1"), -22);
        CHECK.due("two pairs and no comma", parts(x, "0:1 0:1"), -24);
        CHECK.due("two pairs and a semicolon", parts(x, "0:1;0:1"), -23);
    }

    private static void textsOnFullTapes() {
        CHECK.section("THE TAPE of 70 bytes; the end: how many bytes there are");
        SaltPool x = Scenes.pool(0, 1, 1, 1);
        CHECK.due("a text of 70 bytes", parts(x, " ".repeat(67) + "2:1"), 1);
        CHECK.due("a text of 70 bytes, blanks behind", parts(x, "2:1" + " ".repeat(67)), 1);
        CHECK.due("70 blanks", parts(x, " ".repeat(70)), -90);
        CHECK.due("69 blanks", parts(x, " ".repeat(69)), -89);
        CHECK.due("a fault in the last byte", parts(x, " ".repeat(67) + "2:x"), -89);
        CHECK.due("a fault at the end", parts(x, " ".repeat(68) + "2:"), -90);
        CHECK.due("70 digits", parts(x, "0".repeat(70)), -90);
        for (int length = 0; length <= 70; length++) {
            Tapes.type(x, " ".repeat(length));
            CHECK.due("a byte behind " + length, x.type('0', 1), length < 70 ? length + 1 : -3);
            x.parts();
        }
        for (int n = 1; n <= 8; n++) {
            Tapes.type(x, " ".repeat(70 - n));
            CHECK.due(n + " bytes up to 70", x.type(0x2020202020202020L, n), 70);
            x.parts();
            Tapes.type(x, " ".repeat(71 - n));
            CHECK.due(n + " bytes up to 71", x.type(0x2020202020202020L, n), -3);
            CHECK.due("none of them came", x.parts(), -20 - (71 - n));
        }
    }

    private static void textsHold() {
        CHECK.section("of one told twice the latter holds, of one not told its PART stays; no PART is another one");
        SaltPool x = Scenes.pool(60, 1, 2, 3);
        CHECK.due("parts()", parts(x, "2:1000,0:9,2:3,0:5,0:1"), 5);
        quotas("told twice and thrice", x, 0, 0, 10, 20, 30);
        CHECK.due("parts()", parts(x, "1:2"), 1);
        quotas("told as it was", x, 0, 0, 10, 20, 30);
        CHECK.due("a fault in the last byte", parts(x, "0:7,1:7,2:7,"), -32);
        quotas("no part is another one", x, 0, 0, 10, 20, 30);
        CHECK.due("parts()", parts(x, "1:8"), 1);
        quotas("nothing is left of the fault", x, 0, 0, 5, 40, 15);
        CHECK.due("the first and the last works", parts(x, "2:4,0:8"), 2);
        quotas("the first and the last works", x, 0, 0, 24, 24, 12);
        CHECK.due("the least part", parts(x, "0:1,1:1,2:1"), 3);
        quotas("the least part", x, 0, 0, 20, 20, 20);
        CHECK.due("the most part", parts(x, "0:1000,1:1000,2:1000"), 3);
        x.total(3001);
        quotas("the most part", x, 0, 0, 1001, 1000, 1000);
        x.total(60);
        CHECK.due("parts()", parts(x, "0:1,1:8,2:3"), 3);
        x.works(12);
        CHECK.due("works that came later", parts(x, "3:24, 1:2"), 2);
        quotas("four works", x, 0, 0, 2, 4, 6, 48);
        x.shut(3, true, 0);
        x.lot(3, 1, 1);
        CHECK.due("shut works have parts too", parts(x, "3:54"), 1);
        quotas("ahead of the shut", x, 0, 0, 1, 2, 3, 54);
        quotas("shut", x, 0, 1, 10, 20, 30, 0);
    }
}
