import java.util.ArrayList;
import java.util.List;

/**
 * Asks an object for all that can be asked of it, and so tells whether two are in the same state. It uses the object
 * up: what only a change can tell (the total, the bar, the tape, the sheets) is asked by one, and last.
 */
final class Probe {
    private final SaltPool x;
    private final List<String> answers = new ArrayList<>();

    private Probe(SaltPool x) {
        this.x = x;
    }

    static List<String> of(SaltPool x) {
        Probe probe = new Probe(x);
        probe.counts();
        probe.lots();
        probe.ships();
        probe.sea();
        probe.quotas(x.count(4));
        probe.quotas(25);
        probe.numbers();
        probe.tape();
        probe.sheets();
        return probe.answers;
    }

    private void told(String call, int answer) {
        answers.add(call + " = " + answer);
    }

    private void counts() {
        for (int what = 0; what < 8; what++) {
            told("count(" + what + ")", x.count(what));
        }
    }

    private void lots() {
        int lots = x.count(1);
        for (int lot = 0; lot < lots; lot += lot < 2 ? 1 : 57) {
            for (int what = 0; what < 6; what++) {
                told("told(" + lot + ", " + what + ")", x.told(lot, what));
            }
        }
    }

    private void ships() {
        int ships = x.count(3);
        for (int ship = 0; ship < ships; ship++) {
            told("held(" + ship + ", -1)", x.held(ship, -1));
            told("held(" + ship + ", 0)", x.held(ship, 0));
            told("grade(" + ship + ")", x.grade(ship));
            for (int what = 0; what < 4; what++) {
                told("laid(" + ship + ", " + what + ")", x.laid(ship, what));
            }
        }
        told("lay of all", x.lay((1 << ships) - 1));
        for (int ship = 0; ship < ships; ship++) {
            told("the end of " + ship + " then", x.laid(ship, 2));
        }
    }

    private void sea() {
        for (int day = 0; day < 60; day += day < 12 ? 1 : 7) {
            told("sea(" + day + ")", x.sea(day));
        }
    }

    private void quotas(int week) {
        int works = x.count(0);
        for (int w = 0; w < works; w++) {
            told("open(" + w + ", " + week + ", all)", x.open(w, week, x.count(2)));
            told("quota(" + w + ", " + week + ", all)", x.quota(w, week, x.count(2)));
            told("left(" + w + ")", x.left(w));
        }
    }

    private void numbers() {
        told("weeks(0)", x.weeks(0));
        told("total(777)", x.total(777));
        told("bar(9)", x.bar(9));
    }

    private void tape() {
        told("type a digit", x.type('4', 1));
        told("parts()", x.parts());
        int works = x.count(0);
        for (int w = 0; w < works; w++) {
            told("quota(" + w + ", 0, 0)", x.quota(w, 0, 0));
        }
    }

    private void sheets() {
        for (int sheet = 0; sheet < 4; sheet++) {
            for (int lane = 0; lane < 3; lane++) {
                int found = x.item(sheet, lane, -1, 0);
                told("item(" + sheet + ", " + lane + ", -1, 0)", found);
                if (found == SaltPool.INDEX) {
                    items(sheet, lane);
                }
            }
            told("drop(" + sheet + ")", x.drop(sheet));
        }
    }

    private void items(int sheet, int lane) {
        for (int i = 0; i < 60; i += i < 5 ? 1 : 54) {
            told("surf of item " + i, x.surf(40, sheet, lane, i, 1));
            told("sea of item " + i, x.sea(40));
        }
    }
}
