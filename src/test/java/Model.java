import java.util.ArrayList;
import java.util.Arrays;
import java.util.Comparator;
import java.util.List;

/**
 * The document once more, by other means and with no care for speed: lists of records, orders tried
 * whole and day by day, and sheets that are real arrays, whose faults the machine itself finds.
 */
final class Model {
    private record Lot(int works, int grade, int week, int[] at) {
    }

    private record Entry(char kind, int a, int b, int n, int week) {
    }

    private record Ship(int day, int room, int rate, int lay, int due, int[] hold) {
        int loadingDays() {
            int days = 0;
            for (int sacks = room; sacks > 0; sacks -= rate) {
                days++;
            }
            return days;
        }
    }

    private static final int BAD = -1, NOT = -2, FULL = -3, NULL = -11, CAST = -12, INDEX = -13, SIZE = -14;

    private final List<Integer> parts = new ArrayList<>();
    private final List<Lot> lots = new ArrayList<>();
    private final List<Entry> entries = new ArrayList<>();
    private final List<Ship> ships = new ArrayList<>();
    private final Integer[] surf = new Integer[60];
    private final Object[] sheets = new Object[4];
    private String tape = "";
    private int now, total, bar = 5;
    private int[][] latest;

    // ---- works and lots

    int works(int part) {
        if (part < 1 || part > 1000) return BAD;
        if (parts.size() == 8) return FULL;
        parts.add(part);
        return parts.size() - 1;
    }

    int weeks(int n) {
        if (n < 0 || n > 51 || now + n > 51) return BAD;
        return now += n;
    }

    int lot(int works, int grade, int sacks) {
        if (noWorks(works) || grade < 0 || grade > 1000 || sacks < 1 || sacks > 10000) return BAD;
        if (lots.size() == 60) return FULL;
        lots.add(new Lot(works, grade, now, new int[] {sacks, 0, 0}));
        return lots.size() - 1;
    }

    int rail(int lot, int sacks) {
        if (noLot(lot) || sacks < 1) return BAD;
        int[] at = lots.get(lot).at();
        if (at[0] < sacks) return NOT;
        at[0] -= sacks;
        at[1] += sacks;
        return at[0];
    }

    int told(int lot, int what) {
        if (noLot(lot) || what < 0 || what > 5) return BAD;
        Lot of = lots.get(lot);
        return new int[] {of.works(), of.grade(), of.at()[0], of.at()[1], of.at()[2], of.week()}[what];
    }

    // ---- the pool

    int total(int n) {
        if (n < 0 || n > 1000000) return BAD;
        int was = total;
        total = n;
        return was;
    }

    int lend(int a, int b, int n) {
        if (noWorks(a) || noWorks(b) || a == b || n < 1 || n > 100000) return BAD;
        if (quota(a, now, entries.size()) - shipped(a) < n) return NOT;
        return enter(new Entry('L', a, b, n, now));
    }

    int shut(int works, boolean is, int week) {
        if (noWorks(works) || week < 0 || week > 51) return BAD;
        return enter(new Entry(is ? 'S' : 'O', works, -1, 0, week));
    }

    private int enter(Entry entry) {
        if (entries.size() == 100) return FULL;
        entries.add(entry);
        return entries.size() - 1;
    }

    private List<Entry> asOf(int week, int n) {
        return entries.subList(0, n).stream().filter(e -> e.week() <= week).toList();
    }

    int open(int works, int week, int n) {
        if (noWorks(works) || week < 0 || week > 51 || n < 0 || n > entries.size()) return BAD;
        // A stable sort by week: the last one is the latest, and of like ones the later.
        return asOf(week, n).stream().filter(e -> e.kind() != 'L' && e.a() == works)
                .sorted(Comparator.comparingInt(Entry::week)).reduce((first, second) -> second)
                .map(e -> e.kind() == 'S' ? 0 : 1).orElse(1);
    }

    int quota(int works, int week, int n) {
        if (noWorks(works) || week < 0 || week > 51 || n < 0 || n > entries.size()) return -10000001;
        List<Integer> all = new ArrayList<>();
        List<Integer> opened = new ArrayList<>();
        for (int w = 0; w < parts.size(); w++) {
            all.add(w);
            if (open(w, week, n) == 1) opened.add(w);
        }
        long[] first = parted(total, all);
        long quota = opened.contains(works) ? first[works] : 0;
        for (int w : all) {
            if (!opened.contains(w)) quota += parted(first[w], opened)[works];
        }
        for (Entry e : asOf(week, n)) {
            if (e.kind() == 'L' && e.b() == works) quota += e.n();
            if (e.kind() == 'L' && e.a() == works) quota -= e.n();
        }
        return (int) quota;
    }

    private long[] parted(long n, List<Integer> among) {
        long[] share = new long[8];
        long sum = among.stream().mapToLong(parts::get).sum();
        long over = n;
        for (int w : among) {
            share[w] = n * parts.get(w) / sum;
            over -= share[w];
        }
        List<Integer> byRest = new ArrayList<>(among);
        byRest.sort(Comparator.comparingLong((Integer w) -> -(n * parts.get(w) % sum)).thenComparingInt(w -> w));
        for (int k = 0; k < byRest.size() && k < over; k++) {
            share[byRest.get(k)]++;
        }
        return share;
    }

    private int shipped(int works) {
        return lots.stream().filter(lot -> lot.works() == works).mapToInt(lot -> lot.at()[2]).sum();
    }

    int left(int works) {
        if (noWorks(works)) return BAD;
        return Math.max(0, quota(works, now, entries.size()) - shipped(works));
    }

    int type(long w, int n) {
        if (n < 1 || n > 8) return BAD;
        String typed = "";
        for (int k = 0; k < n; k++) {
            int sign = (int) (w >>> 8 * k & 0xFF);
            if (sign < 32 || sign > 126) return BAD;
            typed = (char) sign + typed;
        }
        if (tape.length() + n > 70) return FULL;
        tape += typed;
        return tape.length();
    }

    /** Walks the states of a text sign by sign: 0 works wanted, 1 colon wanted, 2 part wanted, 3 comma or end. */
    int parts() {
        String text = tape;
        tape = "";
        List<Integer> next = new ArrayList<>(parts);
        int state = 0, pairs = 0, works = 0;
        for (int at = 0; at < text.length(); ) {
            char sign = text.charAt(at);
            if (sign == ' ') {
                at++;
            } else if (state == 1 || state == 3) {
                if (sign != (state == 1 ? ':' : ',') || state == 3 && pairs == 8) return -20 - at;
                state = (state + 1) % 4;
                at++;
            } else {
                String digits = text.substring(at).replaceFirst("[^0-9].*", "");
                if (digits.isEmpty()) return -20 - at;
                double number = Double.parseDouble(digits);
                if (state == 0 ? number >= parts.size() : number < 1 || number > 1000) return -20 - at;
                if (state == 0) {
                    works = (int) number;
                } else {
                    next.set(works, (int) number);
                    pairs++;
                }
                state++;
                at += digits.length();
            }
        }
        if (state != 3) return -20 - text.length();
        parts.clear();
        parts.addAll(next);
        return pairs;
    }

    // ---- ships

    int ship(int day, int room, int rate, int lay, int due) {
        if (day < 0 || day > 59 || room < 1 || room > 20000 || rate < 1 || rate > 2000) return BAD;
        if (lay < 0 || lay > 30 || due < 0 || due > 100) return BAD;
        if (ships.size() == 6) return FULL;
        ships.add(new Ship(day, room, rate, lay, due, new int[60]));
        return ships.size() - 1;
    }

    int load(int ship, int lot, int sacks) {
        if (noShip(ship) || noLot(lot) || sacks < 1) return BAD;
        Lot of = lots.get(lot);
        if (sacks > of.at()[1] || sacks > left(of.works())) return NOT;
        if ((long) held(ship, -1) + sacks > ships.get(ship).room()) return NOT;
        of.at()[1] -= sacks;
        of.at()[2] += sacks;
        return ships.get(ship).hold()[lot] += sacks;
    }

    int held(int ship, int lot) {
        if (noShip(ship) || lot != -1 && noLot(lot)) return BAD;
        int[] hold = ships.get(ship).hold();
        return lot == -1 ? Arrays.stream(hold).sum() : hold[lot];
    }

    int grade(int ship) {
        if (noShip(ship)) return BAD;
        List<Integer> sacks = new ArrayList<>();
        for (int lot = 0; lot < lots.size(); lot++) {
            for (int k = 0; k < held(ship, lot); k++) sacks.add(lots.get(lot).grade());
        }
        return sacks.isEmpty() ? NOT : (int) (sacks.stream().mapToLong(g -> g).sum() / sacks.size());
    }

    int surf(int day, int sheet, int lane, int i, int n) {
        if (day < 0 || day > 59 || noSheet(sheet) || lane < 0 || lane > 2 || n < 0 || (long) day + n > 60) return BAD;
        try {
            Object row = asLane(sheets[sheet], lane);
            Object taken = newRow(lane, n);
            System.arraycopy(row, i, taken, 0, n);
            for (int k = 0; k < n; k++) {
                if (java.lang.reflect.Array.getInt(taken, k) > 9) return NOT;
            }
            for (int k = 0; k < n; k++) {
                int item = java.lang.reflect.Array.getInt(taken, k);
                surf[day + k] = item < 0 ? null : Integer.valueOf(item);
            }
            return n;
        } catch (RuntimeException found) {
            return foundBy(found);
        }
    }

    int sea(int day) {
        if (day < 0 || day > 59) return BAD;
        if (surf[day] != null) return surf[day];
        Integer ahead = null;
        Integer behind = null;
        for (int d = 0; d < day; d++) {
            if (surf[d] != null) ahead = surf[d];
        }
        for (int d = 59; d > day; d--) {
            if (surf[d] != null) behind = surf[d];
        }
        if (ahead == null && behind == null) return 0;
        return ahead == null ? behind : behind == null ? ahead : (ahead + behind) / 2;
    }

    int bar(int b) {
        if (b < 0 || b > 9) return BAD;
        int was = bar;
        bar = b;
        return was;
    }

    int lay(int bits) {
        if (bits <= 0) return BAD;
        List<Integer> wanted = new ArrayList<>();
        for (int ship = 0; ship < 31; ship++) {
            if ((bits & 1 << ship) != 0) {
                if (noShip(ship)) return BAD;
                wanted.add(ship);
            }
        }
        boolean[] loads = new boolean[60];
        for (int day = 0; day < 60; day++) loads[day] = sea(day) <= bar;
        int[][] best = null;
        for (List<Integer> order : orders(wanted)) {
            int[][] tried = laidIn(order, loads);
            if (tried != null && (best == null || tried[6][0] < best[6][0])) best = tried;
        }
        if (best == null) return NOT;
        latest = best;
        return best[6][0];
    }

    /** All orders, by numbers of ships. */
    private static List<List<Integer>> orders(List<Integer> ships) {
        List<List<Integer>> all = new ArrayList<>();
        if (ships.isEmpty()) all.add(List.of());
        for (Integer first : ships) {
            List<Integer> others = new ArrayList<>(ships);
            others.remove(first);
            for (List<Integer> rest : orders(others)) {
                List<Integer> order = new ArrayList<>();
                order.add(first);
                order.addAll(rest);
                all.add(order);
            }
        }
        return all;
    }

    /** A row of place, turn, end and cost for each ship that is laid; row 6 has the whole cost; null if it can't be. */
    private int[][] laidIn(List<Integer> order, boolean[] loads) {
        int[][] told = new int[7][];
        told[6] = new int[1];
        int day = 0;
        for (int place = 0; place < order.size(); place++) {
            Ship ship = ships.get(order.get(place));
            if (day < ship.day()) day = ship.day();
            int turn = day;
            int wanted = ship.loadingDays();
            while (true) {
                if (day >= 60 && !loads[59]) return null;
                if (loads[Math.min(day, 59)]) wanted--;
                if (wanted == 0) break;
                day++;
            }
            int cost = 0;
            for (int d = ship.day() + ship.lay(); d <= day; d++) cost += ship.due();
            told[order.get(place)] = new int[] {place, turn, day, cost};
            told[6][0] += cost;
            day++;
        }
        return told;
    }

    int laid(int ship, int what) {
        if (noShip(ship) || latest == null) return BAD;
        if (latest[ship] == null) return NOT;
        return what < 0 || what > 3 ? BAD : latest[ship][what];
    }

    int count(int what) {
        if (what < 0 || what > 7) return BAD;
        if (what < 5) return new int[] {parts.size(), lots.size(), entries.size(), ships.size(), now}[what];
        return lots.stream().mapToInt(lot -> lot.at()[what - 5]).sum();
    }

    // ---- sheets

    int sheet(int sheet, int lane, int n) {
        if (noSheet(sheet) || lane < 0 || lane > 2 || n > 60) return BAD;
        try {
            sheets[sheet] = newRow(lane, n);
            return n;
        } catch (RuntimeException found) {
            return foundBy(found);
        }
    }

    int drop(int sheet) {
        if (noSheet(sheet)) return BAD;
        if (sheets[sheet] == null) return NULL;
        int had = java.lang.reflect.Array.getLength(sheets[sheet]);
        sheets[sheet] = null;
        return had;
    }

    int item(int sheet, int lane, int i, int v) {
        if (noSheet(sheet) || lane < 0 || lane > 2) return BAD;
        try {
            Object row = sheets[sheet];
            switch (lane) {
                case 0 -> ((byte[]) row)[i] = (byte) v;
                case 1 -> ((short[]) row)[i] = (short) v;
                default -> ((int[]) row)[i] = v;
            }
            return 1;
        } catch (RuntimeException found) {
            return foundBy(found);
        }
    }

    int copy(int from, int i, int to, int j, int n) {
        if (noSheet(from) || noSheet(to)) return BAD;
        try {
            System.arraycopy(sheets[from], i, sheets[to], j, n);
            return n;
        } catch (RuntimeException found) {
            return foundBy(found);
        }
    }

    private static Object newRow(int lane, int n) {
        return lane == 0 ? new byte[n] : lane == 1 ? new short[n] : new int[n];
    }

    private static Object asLane(Object row, int lane) {
        return lane == 0 ? (Object) (byte[]) row : lane == 1 ? (Object) (short[]) row : (Object) (int[]) row;
    }

    private static int foundBy(RuntimeException found) {
        if (found instanceof NullPointerException) return NULL;
        if (found instanceof ClassCastException || found instanceof ArrayStoreException) return CAST;
        if (found instanceof IndexOutOfBoundsException) return INDEX;
        if (found instanceof NegativeArraySizeException) return SIZE;
        throw found;
    }

    private boolean noWorks(int works) {
        return works < 0 || works >= parts.size();
    }

    private boolean noLot(int lot) {
        return lot < 0 || lot >= lots.size();
    }

    private boolean noShip(int ship) {
        return ship < 0 || ship >= ships.size();
    }

    private static boolean noSheet(int sheet) {
        return sheet < 0 || sheet > 3;
    }
}
