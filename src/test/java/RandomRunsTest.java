import java.util.Random;

/** Runs of 512 calls from fixed seeds, each answer held against the model's. */
public final class RandomRunsTest {
    private static final int RUNS = 1500;
    private static final int CALLS = 512;
    private static final int[] STRANGE = {
        Integer.MIN_VALUE, Integer.MIN_VALUE + 1, -1000000, -2, -1, 0, 1, 51, 52, 59, 60, 61, 70, 99, 100, 101, 1000,
        1001, 10000, 10001, 20000, 20001, 100000, 100001, 1000000, 1000001, Integer.MAX_VALUE - 1, Integer.MAX_VALUE,
    };
    private static final Check CHECK = new Check("RandomRunsTest");

    private final Random random;
    private final SaltPool x = new SaltPool();
    private final Model model = new Model();
    /** How many of a hundred arguments are strange, and how long ships load: set for each run. */
    private final int strange;
    private final int longest;
    private final StringBuilder calls = new StringBuilder();

    private RandomRunsTest(long seed) {
        random = new Random(seed);
        strange = new int[] {0, 2, 10}[random.nextInt(3)];
        longest = new int[] {3, 12, 40}[random.nextInt(3)];
    }

    public static void main(String[] args) {
        for (int run = 0; run < RUNS && CHECK.isRight(); run++) {
            CHECK.section("run of seed " + run);
            new RandomRunsTest(run).run();
        }
        CHECK.close();
    }

    private void run() {
        // Every run begins with some of all, so that later calls find something.
        for (int k = random.nextInt(9); k > 0; k--) works();
        total();
        for (int k = random.nextInt(7); k > 0; k--) ship();
        for (int k = random.nextInt(6); k > 0; k--) lot();
        for (int k = x.count(0) + x.count(1) + x.count(3); k < CALLS && CHECK.isRight(); k++) {
            call();
        }
        if (!CHECK.isRight()) {
            System.out.println("the calls were:" + calls);
        }
    }

    private void due(String call, int got, int want) {
        calls.append("\n  ").append(call).append(" = ").append(got);
        CHECK.due(call, got, want);
    }

    /** From least to most, and at times just beyond them or anything at all. */
    private int number(int least, int most) {
        if (random.nextInt(100) < strange) {
            return STRANGE[random.nextInt(STRANGE.length)];
        }
        if (random.nextInt(60) == 0) {
            return random.nextBoolean() ? least - 1 : most + 1;
        }
        return most < least ? least : least + random.nextInt(most - least + 1);
    }

    private void call() {
        int which = random.nextInt(100);
        if (which < 1) works();
        else if (which < 3) weeks();
        else if (which < 7) lot();
        else if (which < 13) rail();
        else if (which < 16) told();
        else if (which < 18) total();
        else if (which < 22) lend();
        else if (which < 27) shut();
        else if (which < 31) open();
        else if (which < 38) quota();
        else if (which < 41) left();
        else if (which < 48) text();
        else if (which < 49) ship();
        else if (which < 55) load();
        else if (which < 58) held();
        else if (which < 60) grade();
        else if (which < 65) surf();
        else if (which < 68) sea();
        else if (which < 71) bar();
        else if (which < 74) lay();
        else if (which < 79) laid();
        else if (which < 82) count();
        else if (which < 86) sheet();
        else if (which < 87) drop();
        else if (which < 95) item();
        else copy();
    }

    private int anyWorks() {
        return number(0, x.count(0) - 1);
    }

    private int anyLot() {
        return number(0, x.count(1) - 1);
    }

    private int anyShip() {
        return number(0, x.count(3) - 1);
    }

    private void works() {
        int part = number(1, random.nextBoolean() ? 9 : 1000);
        due("works(" + part + ")", x.works(part), model.works(part));
    }

    private void weeks() {
        int n = number(0, random.nextInt(8) == 0 ? 51 : 3);
        due("weeks(" + n + ")", x.weeks(n), model.weeks(n));
    }

    private void lot() {
        int works = anyWorks(), grade = number(0, 1000), sacks = number(1, random.nextBoolean() ? 50 : 10000);
        due("lot(" + works + ", " + grade + ", " + sacks + ")",
                x.lot(works, grade, sacks), model.lot(works, grade, sacks));
    }

    private void rail() {
        int lot = anyLot();
        int sacks = number(1, Math.max(1, x.told(lot, 2)));
        due("rail(" + lot + ", " + sacks + ")", x.rail(lot, sacks), model.rail(lot, sacks));
    }

    private void told() {
        int lot = anyLot(), what = number(0, 5);
        due("told(" + lot + ", " + what + ")", x.told(lot, what), model.told(lot, what));
    }

    private void total() {
        int n = number(0, random.nextBoolean() ? 500 : 1000000);
        due("total(" + n + ")", x.total(n), model.total(n));
    }

    private void lend() {
        int a = anyWorks(), b = anyWorks(), n = number(1, Math.max(1, Math.min(100000, x.left(a) / 2)));
        due("lend(" + a + ", " + b + ", " + n + ")", x.lend(a, b, n), model.lend(a, b, n));
    }

    private void shut() {
        int works = anyWorks(), week = number(0, random.nextBoolean() ? 51 : x.count(4));
        boolean is = random.nextInt(5) < 2;
        due("shut(" + works + ", " + is + ", " + week + ")", x.shut(works, is, week), model.shut(works, is, week));
    }

    private void open() {
        int works = anyWorks(), week = number(0, 51), n = number(0, x.count(2));
        due("open(" + works + ", " + week + ", " + n + ")", x.open(works, week, n), model.open(works, week, n));
    }

    private void quota() {
        int works = anyWorks(), week = number(0, 51), n = number(0, x.count(2));
        due("quota(" + works + ", " + week + ", " + n + ")", x.quota(works, week, n), model.quota(works, week, n));
    }

    private void left() {
        int works = anyWorks();
        due("left(" + works + ")", x.left(works), model.left(works));
    }

    private void text() {
        if (random.nextInt(8) == 0) {
            type(random.nextLong(), number(1, 8));
            return;
        }
        StringBuilder text = new StringBuilder();
        for (int k = 1 + random.nextInt(random.nextInt(6) == 0 ? 10 : 3); k > 0; k--) {
            blanks(text).append(number(0, Math.max(0, x.count(0) - 1)));
            blanks(text).append(random.nextInt(40) == 0 ? ";" : ":");
            blanks(text).append(random.nextInt(9) == 0 ? "00" : "").append(number(1, 1000));
            blanks(text).append(k > 1 || random.nextInt(30) == 0 ? "," : "");
        }
        if (random.nextInt(4) == 0) {
            text.insert(random.nextInt(text.length() + 1), (char) (32 + random.nextInt(95)));
        }
        for (int from = 0; from < text.length(); from += 8) {
            String piece = text.substring(from, Math.min(from + 8, text.length()));
            type(Tapes.word(piece), piece.length());
        }
        if (random.nextInt(10) > 0) {
            due("parts()", x.parts(), model.parts());
        }
    }

    private StringBuilder blanks(StringBuilder text) {
        return random.nextInt(6) == 0 ? text.append(' ') : text;
    }

    private void type(long w, int n) {
        due("type(" + w + ", " + n + ")", x.type(w, n), model.type(w, n));
    }

    private void ship() {
        int rate = number(1, random.nextBoolean() ? 5 : 2000);
        int room = number(1, Math.max(1, Math.min(20000, Math.min(2000, Math.abs(rate)) * (1 + random.nextInt(longest)))));
        int day = number(0, random.nextInt(3) == 0 ? 59 : 12), lay = number(0, random.nextBoolean() ? 30 : 4);
        int due = number(0, random.nextBoolean() ? 100 : 2);
        due("ship(" + day + ", " + room + ", " + rate + ", " + lay + ", " + due + ")",
                x.ship(day, room, rate, lay, due), model.ship(day, room, rate, lay, due));
    }

    private void load() {
        int ship = anyShip(), lot = anyLot();
        int most = Math.min(x.told(lot, 3), x.left(x.told(lot, 0)));
        int sacks = number(1, Math.max(1, random.nextBoolean() ? most : most / 4));
        due("load(" + ship + ", " + lot + ", " + sacks + ")", x.load(ship, lot, sacks), model.load(ship, lot, sacks));
    }

    private void held() {
        int ship = anyShip(), lot = random.nextInt(3) == 0 ? -1 : anyLot();
        due("held(" + ship + ", " + lot + ")", x.held(ship, lot), model.held(ship, lot));
    }

    private void grade() {
        int ship = anyShip();
        due("grade(" + ship + ")", x.grade(ship), model.grade(ship));
    }

    private void surf() {
        int day = number(0, 59), n = number(0, Math.max(0, Math.min(60 - day, random.nextBoolean() ? 5 : 60)));
        int sheet = number(0, 3), lane = number(0, 2), i = number(0, random.nextBoolean() ? 0 : 20);
        due("surf(" + day + ", " + sheet + ", " + lane + ", " + i + ", " + n + ")",
                x.surf(day, sheet, lane, i, n), model.surf(day, sheet, lane, i, n));
        for (int d = 0; d < 60; d += 7) {
            due("sea(" + d + ")", x.sea(d), model.sea(d));
        }
    }

    private void sea() {
        int day = number(0, 59);
        due("sea(" + day + ")", x.sea(day), model.sea(day));
    }

    private void bar() {
        int b = number(0, 9);
        due("bar(" + b + ")", x.bar(b), model.bar(b));
    }

    private void lay() {
        int ships = number(1, Math.max(1, (1 << x.count(3)) - 1));
        due("lay(" + ships + ")", x.lay(ships), model.lay(ships));
        for (int ship = 0; ship < x.count(3); ship++) {
            for (int what = 0; what < 4; what++) {
                due("laid(" + ship + ", " + what + ")", x.laid(ship, what), model.laid(ship, what));
            }
        }
    }

    private void laid() {
        int ship = anyShip(), what = number(0, 3);
        due("laid(" + ship + ", " + what + ")", x.laid(ship, what), model.laid(ship, what));
    }

    private void count() {
        int what = number(0, 7);
        due("count(" + what + ")", x.count(what), model.count(what));
    }

    private void sheet() {
        int sheet = number(0, 3), lane = number(0, random.nextInt(3)), n = number(0, 60);
        due("sheet(" + sheet + ", " + lane + ", " + n + ")", x.sheet(sheet, lane, n), model.sheet(sheet, lane, n));
    }

    private void drop() {
        int sheet = number(0, 3);
        due("drop(" + sheet + ")", x.drop(sheet), model.drop(sheet));
    }

    private void item() {
        int sheet = number(0, 3), lane = number(0, random.nextInt(3)), i = number(0, random.nextBoolean() ? 9 : 59);
        int v = number(-1, 9) + (random.nextInt(6) == 0 ? 256 << 8 * random.nextInt(2) : 0);
        due("item(" + sheet + ", " + lane + ", " + i + ", " + v + ")",
                x.item(sheet, lane, i, v), model.item(sheet, lane, i, v));
    }

    private void copy() {
        int from = number(0, 3), to = number(0, 3), i = number(0, 20), j = number(0, 20), n = number(0, 20);
        due("copy(" + from + ", " + i + ", " + to + ", " + j + ", " + n + ")",
                x.copy(from, i, to, j, n), model.copy(from, i, to, j, n));
    }
}
