/** Promises 7 to 14: total, lend, shut, open, quota, left, type, parts. */
public final class PoolTest {
    private static final Check CHECK = new Check("PoolTest");
    private static final int NO_QUOTA = -10000001;
    private static final int MOST = Integer.MAX_VALUE;

    public static void main(String[] args) {
        total();
        lend();
        lendFull();
        shut();
        open();
        quotaParted();
        quotaOfShut();
        quotaAsOf();
        left();
        type();
        partsTexts();
        partsHold();
        CHECK.close();
    }

    private static SaltPool pool(int total, int... parts) {
        SaltPool x = new SaltPool();
        for (int part : parts) {
            x.works(part);
        }
        x.total(total);
        return x;
    }

    private static void quotas(String when, SaltPool x, int week, int n, int... wanted) {
        for (int w = 0; w < wanted.length; w++) {
            CHECK.due(when + ": quota(" + w + ", " + week + ", " + n + ")", x.quota(w, week, n), wanted[w]);
        }
    }

    private static void total() {
        CHECK.section("promise 7");
        SaltPool x = new SaltPool();
        CHECK.due("total(-1)", x.total(-1), -1);
        CHECK.due("total(1000001)", x.total(1000001), -1);
        CHECK.due("total(1000000)", x.total(1000000), 0);
        CHECK.due("total(-1)", x.total(-1), -1);
        CHECK.due("total(most)", x.total(MOST), -1);
        CHECK.due("total(0)", x.total(0), 1000000);
        CHECK.due("total(7)", x.total(7), 0);
        CHECK.due("total(8)", x.total(8), 7);
        x.works(1);
        CHECK.due("quota(0, 0, 0)", x.quota(0, 0, 0), 8);
    }

    private static void lend() {
        CHECK.section("promise 8");
        SaltPool x = pool(300, 1, 1, 1);
        CHECK.due("from -1", x.lend(-1, 0, 1), -1);
        CHECK.due("from 3", x.lend(3, 0, 1), -1);
        CHECK.due("to -1", x.lend(0, -1, 1), -1);
        CHECK.due("to 3", x.lend(0, 3, 1), -1);
        CHECK.due("to itself", x.lend(1, 1, 1), -1);
        CHECK.due("0", x.lend(0, 1, 0), -1);
        CHECK.due("100001", x.lend(0, 1, 100001), -1);
        CHECK.due("most", x.lend(0, 1, MOST), -1);
        CHECK.due("100000", x.lend(0, 1, 100000), -2);
        CHECK.due("101", x.lend(0, 1, 101), -2);
        CHECK.due("count(2)", x.count(2), 0);
        CHECK.due("100", x.lend(0, 1, 100), 0);
        CHECK.due("1 more", x.lend(0, 1, 1), -2);
        x.weeks(4);
        CHECK.due("201 of 200", x.lend(1, 2, 201), -2);
        CHECK.due("150 of 200", x.lend(1, 2, 150), 1);
        quotas("ahead of the second", x, 3, 2, 0, 200, 100);
        quotas("with the second", x, 4, 2, 0, 50, 250);
        quotas("first alone", x, 4, 1, 0, 200, 100);
        x.lot(2, 0, 240);
        x.rail(0, 240);
        x.ship(0, 1000, 1, 0, 0);
        CHECK.due("load", x.load(0, 0, 240), 240);
        CHECK.due("more than is unshipped", x.lend(2, 0, 11), -2);
        CHECK.due("what is unshipped", x.lend(2, 0, 10), 2);
        CHECK.due("quota(2, 4, 3)", x.quota(2, 4, 3), 240);
        CHECK.due("quota(0, 4, 3)", x.quota(0, 4, 3), 10);
        x.shut(0, true, 9);
        CHECK.due("a shut that will be does not hinder", x.lend(0, 1, 10), 4);
        x.shut(2, true, 0);
        CHECK.due("quota below 0", x.lend(2, 0, 1), -2);
    }

    private static void lendFull() {
        CHECK.section("promise 8, full");
        SaltPool x = pool(1000000, 1, 1);
        CHECK.due("the most that can be lent", x.lend(0, 1, 100000), 0);
        for (int e = 1; e < 100; e++) {
            CHECK.due("entry " + e, x.lend(e % 2, 1 - e % 2, 1), e);
        }
        CHECK.due("NOT is named ahead of FULL", pool(0, 1, 1).lend(0, 1, 1), -2);
        CHECK.due("one too many", x.lend(0, 1, 1), -3);
        x.total(0);
        CHECK.due("NOT ahead of FULL", x.lend(0, 1, 1), -2);
        CHECK.due("BAD ahead of NOT", x.lend(0, 0, 1), -1);
        CHECK.due("shut too many", x.shut(0, true, 0), -3);
        CHECK.due("bad shut too many", x.shut(2, true, 0), -1);
        CHECK.due("count(2)", x.count(2), 100);
        CHECK.due("quota(0, 51, 100)", x.quota(0, 51, 100), -100000 + 50 - 49);
        CHECK.due("quota(1, 51, 100)", x.quota(1, 51, 100), 100000 - 50 + 49);
    }

    private static void shut() {
        CHECK.section("promise 9");
        SaltPool x = pool(10, 1, 1);
        CHECK.due("works -1", x.shut(-1, true, 0), -1);
        CHECK.due("works 2", x.shut(2, true, 0), -1);
        CHECK.due("week -1", x.shut(0, true, -1), -1);
        CHECK.due("week 52", x.shut(0, false, 52), -1);
        CHECK.due("count(2)", x.count(2), 0);
        x.weeks(20);
        CHECK.due("a week that was", x.shut(0, true, 0), 0);
        CHECK.due("a week that will be", x.shut(1, true, 51), 1);
        CHECK.due("opened", x.shut(0, false, 30), 2);
        CHECK.due("open(0, 29, 3)", x.open(0, 29, 3), 0);
        CHECK.due("open(0, 30, 3)", x.open(0, 30, 3), 1);
        CHECK.due("open(1, 50, 3)", x.open(1, 50, 3), 1);
        CHECK.due("open(1, 51, 3)", x.open(1, 51, 3), 0);
        CHECK.due("count(2)", x.count(2), 3);
    }

    private static void open() {
        CHECK.section("promise 10");
        SaltPool x = pool(10, 1, 1);
        x.shut(0, true, 5);
        x.shut(0, false, 5);
        x.shut(0, true, 3);
        x.shut(1, false, 0);
        CHECK.due("none counts", x.open(0, 51, 0), 1);
        CHECK.due("shut counts", x.open(0, 51, 1), 0);
        CHECK.due("ahead of its week", x.open(0, 4, 1), 1);
        CHECK.due("of like weeks the later entry", x.open(0, 5, 2), 1);
        CHECK.due("a later entry of an earlier week", x.open(0, 5, 3), 1);
        CHECK.due("the earlier week alone", x.open(0, 4, 3), 0);
        CHECK.due("the earlier week's first", x.open(0, 3, 3), 0);
        CHECK.due("ahead of all", x.open(0, 2, 3), 1);
        CHECK.due("other works", x.open(1, 51, 4), 1);
        CHECK.due("works -1", x.open(-1, 0, 0), -1);
        CHECK.due("works 2", x.open(2, 0, 0), -1);
        CHECK.due("week -1", x.open(0, -1, 0), -1);
        CHECK.due("week 52", x.open(0, 52, 0), -1);
        CHECK.due("n -1", x.open(0, 0, -1), -1);
        CHECK.due("n 5", x.open(0, 0, 5), -1);
        CHECK.due("n most", x.open(0, 0, MOST), -1);
        SaltPool y = pool(10, 1, 1);
        y.lend(0, 1, 2);
        CHECK.due("a lender is open", y.open(0, 51, 1), 1);
        CHECK.due("who is lent to is open", y.open(1, 51, 1), 1);
        y.shut(0, true, 0);
        y.lend(1, 0, 1);
        CHECK.due("lending opens nobody", y.open(0, 51, 3), 0);
    }

    private static void quotaParted() {
        CHECK.section("promise 11, parted");
        // 100 by 15: 20 rest 0, 33 rest 5, 46 rest 10
        quotas("one over", pool(100, 3, 5, 7), 0, 0, 20, 33, 47);
        // 7 by 15: 1 rest 6, 2 rest 5, 3 rest 4
        quotas("the greatest rest first", pool(7, 3, 5, 7), 0, 0, 2, 2, 3);
        quotas("of like rests the lesser", pool(8, 1, 1, 1), 0, 0, 3, 3, 2);
        quotas("like rests, one over", pool(7, 1, 1, 1), 0, 0, 3, 2, 2);
        // 5 by 6: 2 rest 3, 1 rest 4, 0 rest 5: both over go to the last two
        quotas("greatest rests at the end", pool(5, 3, 2, 1), 0, 0, 2, 2, 1);
        quotas("nothing to part", pool(0, 3, 2, 1), 0, 0, 0, 0, 0);
        quotas("less than there are works", pool(2, 9, 9, 9, 9), 0, 0, 1, 1, 0, 0);
        quotas("the most", pool(1000000, 1000, 1000, 1000, 1000, 1000, 1000, 1000, 1000), 0, 0,
                125000, 125000, 125000, 125000, 125000, 125000, 125000, 125000);
        quotas("all to one", pool(1000000, 1000), 0, 0, 1000000);
        quotas("eight works, one over", pool(9, 1, 1, 1, 1, 1, 1, 1, 1), 0, 0, 2, 1, 1, 1, 1, 1, 1, 1);
        // 9 by 9: seven of 1 rest 0, the last 2 rest 0; 10 by 9: seven of 1 rest 1, the last 2 rest 2
        quotas("eight works, the last's rest", pool(10, 1, 1, 1, 1, 1, 1, 1, 2), 0, 0, 1, 1, 1, 1, 1, 1, 1, 3);
        SaltPool x = pool(10, 1);
        x.works(1);
        quotas("works that come later share", x, 0, 0, 5, 5);
    }

    private static void quotaOfShut() {
        CHECK.section("promise 11, shut");
        // 11 by 4: 2 rest 3, 2 rest 3, 2 rest 3, 2 rest 3: 3, 3, 3, 2
        SaltPool x = pool(11, 1, 1, 1, 1);
        x.shut(0, true, 0);
        // 3 among 1, 2, 3
        quotas("0 shut", x, 0, 1, 0, 4, 4, 3);
        x.shut(2, true, 0);
        // 3 of works 0 among 1, 3: 2, 1; then 3 of works 2 the same way: not 6 at once
        quotas("0 and 2 shut", x, 0, 2, 0, 7, 0, 4);
        x.shut(3, true, 0);
        quotas("1 open", x, 0, 3, 0, 11, 0, 0);
        x.shut(1, true, 0);
        quotas("none open", x, 0, 4, 0, 0, 0, 0);
        x.shut(3, false, 0);
        quotas("3 open", x, 0, 5, 0, 0, 0, 11);
        // 9 by 5: 5 rest 2, 1 rest 4, 1 rest 4: 5, 2, 2; then 5 among 1, 2, where the rest of 0 is not one of theirs
        SaltPool z = pool(9, 3, 1, 1);
        z.shut(0, true, 0);
        quotas("a rest of shut works gets nothing", z, 0, 1, 0, 5, 4);
        SaltPool y = pool(90, 1, 1, 1);
        y.lend(0, 1, 30);
        y.shut(0, true, 0);
        quotas("what shut works lent stays lent", y, 0, 2, -30, 75, 45);
        y.shut(1, true, 0);
        quotas("what shut works were lent stays theirs", y, 0, 3, -30, 30, 90);
    }

    private static void quotaAsOf() {
        CHECK.section("promise 11, as of");
        SaltPool x = pool(100, 1, 1);
        CHECK.due("works -1", x.quota(-1, 0, 0), NO_QUOTA);
        CHECK.due("works 2", x.quota(2, 0, 0), NO_QUOTA);
        CHECK.due("week -1", x.quota(0, -1, 0), NO_QUOTA);
        CHECK.due("week 52", x.quota(0, 52, 0), NO_QUOTA);
        CHECK.due("n -1", x.quota(0, 0, -1), NO_QUOTA);
        CHECK.due("n 1", x.quota(0, 0, 1), NO_QUOTA);
        x.weeks(10);
        x.lend(0, 1, 20);
        x.shut(1, true, 5);
        CHECK.due("n 3", x.quota(0, 0, 3), NO_QUOTA);
        quotas("week 51, none", x, 51, 0, 50, 50);
        quotas("week 9, lent", x, 9, 1, 50, 50);
        quotas("week 10, lent", x, 10, 1, 30, 70);
        quotas("week 4, all", x, 4, 2, 50, 50);
        quotas("week 5, all", x, 5, 2, 100, 0);
        quotas("week 10, all", x, 10, 2, 80, 20);
    }

    private static void left() {
        CHECK.section("promise 12");
        SaltPool x = pool(100, 1, 1);
        CHECK.due("left(-1)", x.left(-1), -1);
        CHECK.due("left(2)", x.left(2), -1);
        CHECK.due("left(0)", x.left(0), 50);
        x.lot(0, 0, 40);
        x.rail(0, 40);
        x.ship(0, 500, 1, 0, 0);
        x.load(0, 0, 30);
        CHECK.due("left(0), 30 shipped", x.left(0), 20);
        CHECK.due("left(1)", x.left(1), 50);
        x.shut(0, true, 3);
        CHECK.due("left(0), shut in a week to come", x.left(0), 20);
        x.weeks(3);
        CHECK.due("left(0), shut", x.left(0), 0);
        CHECK.due("left(1), the other shut", x.left(1), 100);
        x.shut(0, false, 3);
        CHECK.due("left(0), opened", x.left(0), 20);
        x.total(60);
        CHECK.due("left(0), all shipped", x.left(0), 0);
        x.total(58);
        CHECK.due("left(0), more than all shipped", x.left(0), 0);
    }

    private static void type() {
        CHECK.section("promise 13");
        SaltPool x = new SaltPool();
        x.works(1);
        CHECK.due("n 0", x.type(0x3030L, 0), -1);
        CHECK.due("n 9", x.type(0x3030303030303030L, 9), -1);
        CHECK.due("n -1", x.type(0x3030L, -1), -1);
        CHECK.due("n most", x.type(0x3030L, MOST), -1);
        CHECK.due("byte 31", x.type(0x301F30L, 3), -1);
        CHECK.due("byte 127", x.type(0x7F3030L, 3), -1);
        CHECK.due("byte 128", x.type(0x80L, 1), -1);
        CHECK.due("byte 255", x.type(-1L, 8), -1);
        CHECK.due("byte 0", x.type(0x30L, 2), -1);
        CHECK.due("a high byte of 8", x.type(0x8030303030303030L, 8), -1);
        CHECK.due("nothing is typed", x.parts(), -20);
        CHECK.due("bytes above n do not count", x.type(0xFF001F3AL, 1), 1);
        CHECK.due("bytes 32 and 126", x.type(0x207EL, 2), 3);
        CHECK.due("parts()", x.parts(), -20);
        CHECK.due("eight at once, highest first", Tapes.type(x, "0:12    "), 8);
        CHECK.due("parts()", x.parts(), 1);
        CHECK.due("parts() again", x.parts(), -20);
        for (int k = 1; k <= 8; k++) {
            CHECK.due("eight more", x.type(0x2020202020202020L, 8), 8 * k);
        }
        CHECK.due("72", x.type(0x2020202020202020L, 8), -3);
        CHECK.due("71", x.type(0x20202020202020L, 7), -3);
        CHECK.due("bad and full", x.type(0x202020202020201FL, 8), -1);
        CHECK.due("70", x.type(0x202020202020L, 6), 70);
        CHECK.due("71", x.type(0x20L, 1), -3);
        CHECK.due("a tape of blanks", x.parts(), -90);
        CHECK.due("empty behind it", x.type(0x20L, 1), 1);
    }

    private static void fault(SaltPool x, String text, int place) {
        Tapes.type(x, text);
        CHECK.due("parts() of '" + text + "'", x.parts(), -20 - place);
    }

    private static void pairs(SaltPool x, String text, int pairs) {
        Tapes.type(x, text);
        CHECK.due("parts() of '" + text + "'", x.parts(), pairs);
    }

    private static void partsTexts() {
        CHECK.section("promise 14, texts");
        SaltPool x = pool(0, 1, 1, 1);
        pairs(x, "0:1", 1);
        pairs(x, "2:1000", 1);
        pairs(x, "1:2,0:4,1:1", 3);
        pairs(x, "  1  :  2  ,  0 : 4  ", 2);
        pairs(x, "0000000000000000000001:0000000000000000000000000000001000", 1);
        pairs(x, "0:1,0:1,0:1,0:1,0:1,0:1,0:1,0:1", 8);
        pairs(x, "0:1,0:1,0:1,0:1,0:1,0:1,0:1,0:1   ", 8);
        fault(x, "0:1,0:1,0:1,0:1,0:1,0:1,0:1,0:1,", 31);
        fault(x, "0:1,0:1,0:1,0:1,0:1,0:1,0:1,0:1  ,0:1", 33);
        fault(x, "0:1,0:1,0:1,0:1,0:1,0:1,0:1,0:1;", 31);
        fault(x, "", 0);
        fault(x, "   ", 3);
        fault(x, "0", 1);
        fault(x, "0  ", 3);
        fault(x, "0:", 2);
        fault(x, "0: ", 3);
        fault(x, "0:1,", 4);
        fault(x, "0:1 , ", 6);
        fault(x, ":1", 0);
        fault(x, " ,", 1);
        fault(x, "-1:1", 0);
        fault(x, "0:-1", 2);
        fault(x, "0::1", 2);
        fault(x, "0:1:1", 3);
        fault(x, "0:1,,1:1", 4);
        fault(x, "0,1", 1);
        fault(x, "3:1", 0);
        fault(x, "  3:1", 2);
        fault(x, "03:1", 0);
        fault(x, "0:0", 2);
        fault(x, "0: 000", 3);
        fault(x, "0:1001", 2);
        fault(x, "0: 1001", 3);
        fault(x, "0:4294967297", 2);
        fault(x, "0:18446744073709551617", 2);
        fault(x, "4294967296:1", 0);
        fault(x, "18446744073709551616:1", 0);
        fault(x, "0:1 2", 4);
        fault(x, "0 1:2", 2);
        fault(x, "0:1/", 3);
        fault(x, "0:1x", 3);
        fault(x, "a:1", 0);
        fault(x, "0:a", 2);
        fault(x, "3x", 0);
        fault(x, "0:1,1:1,9:1,:", 8);
        fault(new SaltPool(), "0:1", 0);
        pairs(x, "0:1", 1);
        fault(x, "0", 1);
        pairs(x, "0:1,1:1", 2);
        fault(x, "0:1,", 4);
        fault(x, "0".repeat(70), 70);
        fault(x, "0:" + "0".repeat(68), 2);
        pairs(x, "0:" + "0".repeat(67) + "1", 1);
        fault(x, "0:1" + " ".repeat(66) + ",", 70);
    }

    private static void partsHold() {
        CHECK.section("promise 14, parts");
        SaltPool x = pool(100, 1, 1, 2);
        quotas("at first", x, 0, 0, 25, 25, 50);
        pairs(x, "1:7", 1);
        quotas("one not told stays", x, 0, 0, 10, 70, 20);
        pairs(x, "1:1,0:1,1:2,0:6", 4);
        quotas("of one told twice the latter", x, 0, 0, 60, 20, 20);
        fault(x, "0:1,1:1,2:1,", 12);
        quotas("a fault changes no part", x, 0, 0, 60, 20, 20);
        pairs(x, "2:12", 1);
        quotas("what a faulty text told is forgotten", x, 0, 0, 30, 10, 60);
        pairs(x, "2:1,0:1,1:1000", 3);
        x.total(1002);
        quotas("the least and the most", x, 0, 0, 1, 1000, 1);
        SaltPool y = pool(16, 1, 1, 1, 1, 1, 1, 1, 1);
        pairs(y, "7:9", 1);
        quotas("the eighth", y, 0, 0, 1, 1, 1, 1, 1, 1, 1, 9);
    }
}
