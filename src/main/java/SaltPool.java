import java.util.Arrays;

/**
 * Salt works that rail sacks to a port, the ships that load them there, and the
 * pool that parts a year's quota among the works. See README.md.
 *
 * Every row is made once, in a constructor, and used again: no call makes an object.
 */
public final class SaltPool {
    public static final int BAD = -1, NOT = -2, FULL = -3, NULL = -11, CAST = -12, INDEX = -13, SIZE = -14;

    private static final int MOST_WORKS = 8;
    private static final int MOST_PART = 1000;
    private static final int LAST_WEEK = 51;
    private static final int MOST_LOTS = 60;
    private static final int MOST_GRADE = 1000;
    private static final int MOST_SACKS = 10000;
    private static final int MOST_TOTAL = 1000000;
    private static final int MOST_ENTRIES = 100;
    private static final int MOST_LENT = 100000;
    private static final int MOST_SHIPS = 6;
    private static final int DAYS = 60;
    private static final int MOST_ROOM = 20000;
    private static final int MOST_RATE = 2000;
    private static final int MOST_LAY = 30;
    private static final int MOST_DUE = 100;
    private static final int MOST_SURF = 9;
    private static final int FIRST_BAR = 5;
    private static final int MOST_TAPE = 70;
    private static final int MOST_TYPED = 8;
    private static final int MOST_PAIRS = 8;
    private static final int SHEETS = 4;
    private static final int LANES = 3;
    private static final int MOST_ITEMS = 60;

    /** No quota can be so low: 100 entries lend 100000 each at the most. */
    private static final int NO_QUOTA = -10000001;
    private static final int FIRST_FAULT = -20;
    private static final int ALL_LOTS = -1;

    private final Pool pool;
    private final Tape tape;
    private final Lots lots;
    private final Fleet fleet;
    private final Sea sea;
    private final Mole mole;
    private final Sheet[] sheets;
    private int now;

    public SaltPool() {
        pool = new Pool();
        tape = new Tape();
        lots = new Lots();
        fleet = new Fleet();
        sea = new Sea();
        mole = new Mole();
        sheets = new Sheet[SHEETS];
        for (int s = 0; s < SHEETS; s++) {
            sheets[s] = new Sheet();
        }
    }

    // ---- 1 works and lots

    public int works(int part) {
        if (!isWithin(part, 1, MOST_PART)) {
            return BAD;
        }
        return pool.addWorks(part);
    }

    public int weeks(int n) {
        if (!isWithin(n, 0, LAST_WEEK - now)) {
            return BAD;
        }
        now += n;
        return now;
    }

    public int lot(int works, int grade, int sacks) {
        if (!pool.hasWorks(works) || !isWithin(grade, 0, MOST_GRADE) || !isWithin(sacks, 1, MOST_SACKS)) {
            return BAD;
        }
        return lots.add(works, grade, sacks, now);
    }

    public int rail(int lot, int sacks) {
        if (!lots.has(lot) || sacks < 1) {
            return BAD;
        }
        if (sacks > lots.inPit[lot]) {
            return NOT;
        }
        lots.moveToPort(lot, sacks);
        return lots.inPit[lot];
    }

    public int told(int lot, int what) {
        if (!lots.has(lot)) {
            return BAD;
        }
        switch (what) {
            case 0:
                return lots.works[lot];
            case 1:
                return lots.grade[lot];
            case 2:
                return lots.inPit[lot];
            case 3:
                return lots.atPort[lot];
            case 4:
                return lots.inHolds[lot];
            case 5:
                return lots.week[lot];
            default:
                return BAD;
        }
    }

    // ---- 2 the pool

    public int total(int n) {
        if (!isWithin(n, 0, MOST_TOTAL)) {
            return BAD;
        }
        int was = pool.total;
        pool.total = n;
        return was;
    }

    public int lend(int a, int b, int n) {
        if (!pool.hasWorks(a) || !pool.hasWorks(b) || a == b || !isWithin(n, 1, MOST_LENT)) {
            return BAD;
        }
        if (pool.unshipped(a, now) < n) {
            return NOT;
        }
        return pool.addEntry(Pool.LENT, a, b, n, now);
    }

    public int shut(int works, boolean is, int week) {
        if (!pool.hasWorks(works) || !isWeek(week)) {
            return BAD;
        }
        return pool.addEntry(is ? Pool.SHUT : Pool.OPENED, works, works, 0, week);
    }

    public int open(int works, int week, int n) {
        if (!isAsked(works, week, n)) {
            return BAD;
        }
        return pool.isOpen(works, week, n) ? 1 : 0;
    }

    public int quota(int works, int week, int n) {
        if (!isAsked(works, week, n)) {
            return NO_QUOTA;
        }
        return pool.quotaOf(works, week, n);
    }

    public int left(int works) {
        if (!pool.hasWorks(works)) {
            return BAD;
        }
        return Math.max(0, pool.unshipped(works, now));
    }

    public int type(long w, int n) {
        if (!isWithin(n, 1, MOST_TYPED) || !Tape.canHold(w, n)) {
            return BAD;
        }
        return tape.append(w, n);
    }

    public int parts() {
        int answer = tape.readPairs(pool.works);
        tape.length = 0;
        if (answer > 0) {
            pool.takeParts(tape.told);
        }
        return answer;
    }

    // ---- 3 ships

    public int ship(int day, int room, int rate, int lay, int due) {
        if (!isDay(day) || !isWithin(room, 1, MOST_ROOM) || !isWithin(rate, 1, MOST_RATE)
                || !isWithin(lay, 0, MOST_LAY) || !isWithin(due, 0, MOST_DUE)) {
            return BAD;
        }
        return fleet.add(day, room, rate, lay, due);
    }

    public int load(int ship, int lot, int sacks) {
        if (!fleet.has(ship) || !lots.has(lot) || sacks < 1) {
            return BAD;
        }
        int by = lots.works[lot];
        // Held against the quota itself, not left(): both refuse alike, since sacks are 1 or more.
        if (sacks > lots.atPort[lot] || sacks > fleet.freeRoom(ship) || sacks > pool.unshipped(by, now)) {
            return NOT;
        }
        lots.moveToHolds(lot, sacks);
        pool.shipped[by] += sacks;
        return fleet.stow(ship, lot, sacks);
    }

    public int held(int ship, int lot) {
        if (!fleet.has(ship) || lot != ALL_LOTS && !lots.has(lot)) {
            return BAD;
        }
        return lot == ALL_LOTS ? fleet.stowed[ship] : fleet.stowedOf(ship, lot);
    }

    public int grade(int ship) {
        if (!fleet.has(ship)) {
            return BAD;
        }
        int sacks = fleet.stowed[ship];
        if (sacks <= 0) {
            return NOT;
        }
        int grades = 0;
        for (int lot = 0; lot < lots.count; lot++) {
            grades += fleet.stowedOf(ship, lot) * lots.grade[lot];
        }
        return grades / sacks;
    }

    public int surf(int day, int sheet, int lane, int i, int n) {
        if (!isDay(day) || !isSheet(sheet) || !isLane(lane) || !isWithin(n, 0, DAYS - day)) {
            return BAD;
        }
        Sheet from = sheets[sheet];
        int fault = from.faultAs(lane, i, n);
        if (fault != 0) {
            return fault;
        }
        if (from.hasAbove(MOST_SURF, i, n)) {
            return NOT;
        }
        System.arraycopy(from.items, i, sea.surf, day, n);
        return n;
    }

    public int sea(int day) {
        return isDay(day) ? sea.takenOn(day) : BAD;
    }

    public int bar(int b) {
        if (!isWithin(b, 0, MOST_SURF)) {
            return BAD;
        }
        int was = sea.bar;
        sea.bar = b;
        return was;
    }

    public int lay(int ships) {
        if (!isWithin(ships, 1, (1 << fleet.count) - 1)) {
            return BAD;
        }
        return mole.layCheapest(fleet, sea, ships);
    }

    public int laid(int ship, int what) {
        if (!fleet.has(ship) || !mole.hasOrder) {
            return BAD;
        }
        // The document names NOT ahead of BAD here, so a wrong number of what comes last.
        if (mole.place[ship] < 0) {
            return NOT;
        }
        switch (what) {
            case 0:
                return mole.place[ship];
            case 1:
                return mole.turn[ship];
            case 2:
                return mole.end[ship];
            case 3:
                return mole.cost[ship];
            default:
                return BAD;
        }
    }

    public int count(int what) {
        switch (what) {
            case 0:
                return pool.works;
            case 1:
                return lots.count;
            case 2:
                return pool.entries;
            case 3:
                return fleet.count;
            case 4:
                return now;
            case 5:
                return lots.sumOf(lots.inPit);
            case 6:
                return lots.sumOf(lots.atPort);
            case 7:
                return lots.sumOf(lots.inHolds);
            default:
                return BAD;
        }
    }

    // ---- 4 sheets

    public int sheet(int sheet, int lane, int n) {
        if (!isSheet(sheet) || !isLane(lane) || n > MOST_ITEMS) {
            return BAD;
        }
        if (n < 0) {
            return SIZE;
        }
        sheets[sheet].begin(lane, n);
        return n;
    }

    public int drop(int sheet) {
        if (!isSheet(sheet)) {
            return BAD;
        }
        Sheet dropped = sheets[sheet];
        if (dropped.isNothing()) {
            return NULL;
        }
        dropped.lane = Sheet.NOTHING;
        return dropped.length;
    }

    public int item(int sheet, int lane, int i, int v) {
        if (!isSheet(sheet) || !isLane(lane)) {
            return BAD;
        }
        int fault = sheets[sheet].faultAs(lane, i, 1);
        if (fault != 0) {
            return fault;
        }
        sheets[sheet].put(i, v);
        return 1;
    }

    public int copy(int from, int i, int to, int j, int n) {
        if (!isSheet(from) || !isSheet(to)) {
            return BAD;
        }
        Sheet source = sheets[from];
        Sheet target = sheets[to];
        if (source.isNothing() || target.isNothing()) {
            return NULL;
        }
        if (source.lane != target.lane) {
            return CAST;
        }
        if (!source.hasItems(i, n) || !target.hasItems(j, n)) {
            return INDEX;
        }
        System.arraycopy(source.items, i, target.items, j, n);
        return n;
    }

    private static boolean isWithin(int n, int least, int most) {
        return n >= least && n <= most;
    }

    private static boolean isWeek(int week) {
        return isWithin(week, 0, LAST_WEEK);
    }

    private static boolean isDay(int day) {
        return isWithin(day, 0, DAYS - 1);
    }

    private static boolean isSheet(int sheet) {
        return isWithin(sheet, 0, SHEETS - 1);
    }

    private static boolean isLane(int lane) {
        return isWithin(lane, 0, LANES - 1);
    }

    private boolean isAsked(int works, int week, int n) {
        return pool.hasWorks(works) && isWeek(week) && isWithin(n, 0, pool.entries);
    }

    /** The works with their parts, the total, and the entries that change quotas. */
    private static final class Pool {
        static final int LENT = 0, SHUT = 1, OPENED = 2;
        private static final int RAISED = -1;

        final int[] part = new int[MOST_WORKS];
        final int[] shipped = new int[MOST_WORKS];
        int works;
        int total;

        final int[] kind = new int[MOST_ENTRIES];
        final int[] of = new int[MOST_ENTRIES];
        final int[] to = new int[MOST_ENTRIES];
        final int[] sacks = new int[MOST_ENTRIES];
        final int[] week = new int[MOST_ENTRIES];
        int entries;

        // What one quota is worked out in.
        private final int[] share = new int[MOST_WORKS];
        private final int[] rest = new int[MOST_WORKS];
        private final boolean[] among = new boolean[MOST_WORKS];

        boolean hasWorks(int w) {
            return w >= 0 && w < works;
        }

        int addWorks(int newPart) {
            if (works >= MOST_WORKS) {
                return FULL;
            }
            part[works] = newPart;
            works++;
            return works - 1;
        }

        int addEntry(int newKind, int a, int b, int n, int from) {
            if (entries >= MOST_ENTRIES) {
                return FULL;
            }
            kind[entries] = newKind;
            of[entries] = a;
            to[entries] = b;
            sacks[entries] = n;
            week[entries] = from;
            entries++;
            return entries - 1;
        }

        /** A 0 stands for works that the text did not tell of. */
        void takeParts(int[] told) {
            for (int w = 0; w < works; w++) {
                if (told[w] > 0) {
                    part[w] = told[w];
                }
            }
        }

        /** Below 0 when quota went away behind what was shipped. */
        int unshipped(int w, int now) {
            return quotaOf(w, now, entries) - shipped[w];
        }

        boolean isOpen(int w, int asOf, int n) {
            boolean open = true;
            int latest = 0;
            for (int e = 0; e < n; e++) {
                if (kind[e] != LENT && of[e] == w && week[e] <= asOf && week[e] >= latest) {
                    latest = week[e];
                    open = kind[e] == OPENED;
                }
            }
            return open;
        }

        int quotaOf(int w, int asOf, int n) {
            Arrays.fill(share, 0);
            for (int each = 0; each < works; each++) {
                among[each] = true;
            }
            partAmong(total);
            for (int each = 0; each < works; each++) {
                among[each] = isOpen(each, asOf, n);
            }
            for (int each = 0; each < works; each++) {
                if (!among[each]) {
                    partAmong(share[each]);
                    share[each] = 0;
                }
            }
            return share[w] + lentTo(w, asOf, n);
        }

        /** Less than 0 where it lent more than it was lent. */
        private int lentTo(int w, int asOf, int n) {
            int more = 0;
            for (int e = 0; e < n; e++) {
                if (kind[e] != LENT || week[e] > asOf) {
                    continue;
                }
                if (to[e] == w) {
                    more += sacks[e];
                }
                if (of[e] == w) {
                    more -= sacks[e];
                }
            }
            return more;
        }

        /** An int holds the products: 1000000 sacks by a part of 1000 at the most. */
        private void partAmong(int n) {
            int parts = partsAmong();
            if (parts <= 0) {
                return;
            }
            int over = n;
            for (int w = 0; w < works; w++) {
                rest[w] = RAISED;
                if (among[w]) {
                    int cut = n * part[w] / parts;
                    rest[w] = n * part[w] % parts;
                    share[w] += cut;
                    over -= cut;
                }
            }
            raiseGreatestRests(over);
        }

        private int partsAmong() {
            int parts = 0;
            for (int w = 0; w < works; w++) {
                if (among[w]) {
                    parts += part[w];
                }
            }
            return parts;
        }

        private void raiseGreatestRests(int over) {
            for (int k = 0; k < over; k++) {
                int greatest = 0;
                for (int w = 1; w < works; w++) {
                    if (rest[w] > rest[greatest]) {
                        greatest = w;
                    }
                }
                share[greatest]++;
                rest[greatest] = RAISED;
            }
        }
    }

    /** The bytes typed, and the reader of a parts' text in them. */
    private static final class Tape {
        /** Above every number that can stand in a text, so that more digits change nothing. */
        private static final int TOO_MUCH = 100000;

        final int[] told = new int[MOST_WORKS];
        private final byte[] bytes = new byte[MOST_TAPE];
        int length;
        private int at;

        static boolean canHold(long w, int n) {
            for (int k = 0; k < n; k++) {
                if (!isWithin(byteOf(w, k), 32, 126)) {
                    return false;
                }
            }
            return true;
        }

        private static int byteOf(long w, int k) {
            return (int) (w >> 8 * k) & 255;
        }

        int append(long w, int n) {
            if (n > MOST_TAPE - length) {
                return FULL;
            }
            for (int k = n - 1; k >= 0; k--) {
                bytes[length] = (byte) byteOf(w, k);
                length++;
            }
            return length;
        }

        /** How many pairs, told[] having their parts; or a fault at the place where reading stopped. */
        int readPairs(int works) {
            Arrays.fill(told, 0);
            at = 0;
            for (int pairs = 1; pairs <= MOST_PAIRS; pairs++) {
                if (!readPair(works)) {
                    break;
                }
                skipBlanks();
                if (at >= length) {
                    return pairs;
                }
                if (pairs == MOST_PAIRS || !readSign(',')) {
                    break;
                }
            }
            return FIRST_FAULT - at;
        }

        private boolean readPair(int works) {
            int w = readNumber(0, works - 1);
            if (w < 0 || !readSign(':')) {
                return false;
            }
            int part = readNumber(1, MOST_PART);
            if (part < 0) {
                return false;
            }
            told[w] = part;
            return true;
        }

        private boolean readSign(char sign) {
            skipBlanks();
            if (at >= length || bytes[at] != sign) {
                return false;
            }
            at++;
            return true;
        }

        /** -1 if none stands there or it is not within; the place is then its first byte. */
        private int readNumber(int least, int most) {
            skipBlanks();
            int first = at;
            int number = 0;
            while (at < length && bytes[at] >= '0' && bytes[at] <= '9') {
                number = Math.min(number * 10 + bytes[at] - '0', TOO_MUCH);
                at++;
            }
            if (at == first || !isWithin(number, least, most)) {
                at = first;
                return -1;
            }
            return number;
        }

        private void skipBlanks() {
            while (at < length && bytes[at] == ' ') {
                at++;
            }
        }
    }

    /** The lots, and where their sacks are. */
    private static final class Lots {
        final int[] works = new int[MOST_LOTS];
        final int[] grade = new int[MOST_LOTS];
        final int[] week = new int[MOST_LOTS];
        final int[] inPit = new int[MOST_LOTS];
        final int[] atPort = new int[MOST_LOTS];
        final int[] inHolds = new int[MOST_LOTS];
        int count;

        boolean has(int lot) {
            return lot >= 0 && lot < count;
        }

        int add(int by, int newGrade, int sacks, int made) {
            if (count >= MOST_LOTS) {
                return FULL;
            }
            works[count] = by;
            grade[count] = newGrade;
            inPit[count] = sacks;
            week[count] = made;
            count++;
            return count - 1;
        }

        void moveToPort(int lot, int sacks) {
            inPit[lot] -= sacks;
            atPort[lot] += sacks;
        }

        void moveToHolds(int lot, int sacks) {
            atPort[lot] -= sacks;
            inHolds[lot] += sacks;
        }

        int sumOf(int[] sacks) {
            int sum = 0;
            for (int lot = 0; lot < count; lot++) {
                sum += sacks[lot];
            }
            return sum;
        }
    }

    /** The ships and what is in their holds. */
    private static final class Fleet {
        final int[] arrival = new int[MOST_SHIPS];
        final int[] room = new int[MOST_SHIPS];
        final int[] rate = new int[MOST_SHIPS];
        final int[] layDays = new int[MOST_SHIPS];
        final int[] due = new int[MOST_SHIPS];
        final int[] stowed = new int[MOST_SHIPS];
        private final int[] stowedLots = new int[MOST_SHIPS * MOST_LOTS];
        int count;

        boolean has(int ship) {
            return ship >= 0 && ship < count;
        }

        int add(int day, int newRoom, int newRate, int newLay, int newDue) {
            if (count >= MOST_SHIPS) {
                return FULL;
            }
            arrival[count] = day;
            room[count] = newRoom;
            rate[count] = newRate;
            layDays[count] = newLay;
            due[count] = newDue;
            count++;
            return count - 1;
        }

        int freeRoom(int ship) {
            return room[ship] - stowed[ship];
        }

        int stow(int ship, int lot, int sacks) {
            stowed[ship] += sacks;
            stowedLots[ship * MOST_LOTS + lot] += sacks;
            return stowedOf(ship, lot);
        }

        int stowedOf(int ship, int lot) {
            return stowedLots[ship * MOST_LOTS + lot];
        }

        int turnBehind(int ship, int lastEnd) {
            return Math.max(arrival[ship], lastEnd + 1);
        }

        int loadingDays(int ship) {
            int by = rate[ship];
            return by > 0 ? (room[ship] + by - 1) / by : 0;
        }

        int costOf(int ship, int end) {
            int beyond = end - arrival[ship] + 1 - layDays[ship];
            return due[ship] * Math.max(0, beyond);
        }
    }

    /** The surf of the days, and on which of them one loads. */
    private static final class Sea {
        /** Below 0 is unread. */
        final int[] surf = new int[DAYS];
        int bar = FIRST_BAR;

        // Counted once for all orders that a search looks at.
        private final int[] loadable = new int[DAYS];
        private final int[] loadableBefore = new int[DAYS];
        private int loadables;
        private boolean loadsForEver;

        Sea() {
            Arrays.fill(surf, -1);
        }

        int takenOn(int day) {
            int before = day;
            while (before >= 0 && surf[before] < 0) {
                before--;
            }
            int behind = day;
            while (behind < DAYS && surf[behind] < 0) {
                behind++;
            }
            if (before < 0) {
                return behind < DAYS ? surf[behind] : 0;
            }
            return behind < DAYS ? (surf[before] + surf[behind]) / 2 : surf[before];
        }

        void countLoadableDays() {
            loadables = 0;
            for (int day = 0; day < DAYS; day++) {
                loadableBefore[day] = loadables;
                if (takenOn(day) <= bar) {
                    loadable[loadables] = day;
                    loadables++;
                }
            }
            loadsForEver = takenOn(DAYS - 1) <= bar;
        }

        /** The last of so many days (1 or more) on which one loads, from a day on; -1 if they never come. */
        int endFrom(int day, int days) {
            if (day >= DAYS) {
                return loadsForEver ? day + days - 1 : -1;
            }
            int last = loadableBefore[day] + days - 1;
            if (last < loadables) {
                return loadable[last];
            }
            return loadsForEver ? DAYS + last - loadables : -1;
        }
    }

    /** The search for the order that costs least, and what the latest one told. */
    private static final class Mole {
        /** Above every cost: 6 ships of 120059 days at 100 each. */
        private static final int NO_COST = 1000000000;

        final int[] place = new int[MOST_SHIPS];
        final int[] turn = new int[MOST_SHIPS];
        final int[] end = new int[MOST_SHIPS];
        final int[] cost = new int[MOST_SHIPS];
        boolean hasOrder;

        private final int[] order = new int[MOST_SHIPS];
        private final int[] cheapest = new int[MOST_SHIPS];
        private int least;

        int layCheapest(Fleet fleet, Sea sea, int ships) {
            sea.countLoadableDays();
            least = NO_COST;
            seek(fleet, sea, ships, 0, -1, 0);
            if (least == NO_COST) {
                return NOT;
            }
            keepCheapest(fleet, sea, Integer.bitCount(ships));
            return least;
        }

        /** Goes by numbers of ships, so that of orders of like cost the first is found first and stays. */
        private void seek(Fleet fleet, Sea sea, int waiting, int depth, int lastEnd, int spent) {
            if (waiting == 0) {
                least = spent;
                System.arraycopy(order, 0, cheapest, 0, depth);
                return;
            }
            if (depth >= MOST_SHIPS) {
                return;
            }
            for (int ship = 0; ship < fleet.count; ship++) {
                if ((waiting >> ship & 1) == 0) {
                    continue;
                }
                int shipEnd = sea.endFrom(fleet.turnBehind(ship, lastEnd), fleet.loadingDays(ship));
                if (shipEnd < 0) {
                    continue;
                }
                int shipsCost = spent + fleet.costOf(ship, shipEnd);
                if (shipsCost < least) {
                    order[depth] = ship;
                    seek(fleet, sea, waiting & ~(1 << ship), depth + 1, shipEnd, shipsCost);
                }
            }
        }

        private void keepCheapest(Fleet fleet, Sea sea, int ships) {
            Arrays.fill(place, -1);
            int lastEnd = -1;
            for (int k = 0; k < ships; k++) {
                int ship = cheapest[k];
                place[ship] = k;
                turn[ship] = fleet.turnBehind(ship, lastEnd);
                end[ship] = sea.endFrom(turn[ship], fleet.loadingDays(ship));
                cost[ship] = fleet.costOf(ship, end[ship]);
                lastEnd = end[ship];
            }
            hasOrder = true;
        }
    }

    /** A row of a lane, or nothing. Items are kept as ints, cut to their lane's width when they are put. */
    private static final class Sheet {
        static final int NOTHING = -1;
        private static final int BYTES = 0, SHORTS = 1;

        final int[] items = new int[MOST_ITEMS];
        int lane = NOTHING;
        int length;

        boolean isNothing() {
            return lane == NOTHING;
        }

        void begin(int newLane, int n) {
            Arrays.fill(items, 0);
            lane = newLane;
            length = n;
        }

        boolean hasItems(int i, int n) {
            return i >= 0 && n >= 0 && i <= length - n;
        }

        /** What hinders taking n items from i on as a row of a lane; 0 if nothing does. */
        int faultAs(int asked, int i, int n) {
            if (isNothing()) {
                return NULL;
            }
            if (asked != lane) {
                return CAST;
            }
            return hasItems(i, n) ? 0 : INDEX;
        }

        boolean hasAbove(int most, int i, int n) {
            for (int k = i; k < i + n; k++) {
                if (items[k] > most) {
                    return true;
                }
            }
            return false;
        }

        void put(int i, int v) {
            items[i] = lane == BYTES ? (byte) v : lane == SHORTS ? (short) v : v;
        }
    }
}
