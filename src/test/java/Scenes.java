/** Objects in known states, made anew for each test that wants one. */
final class Scenes {
    private Scenes() {
    }

    /**
     * Something of all: quotas of 260, 540 and 200 in week 7, of which 50, 20 and 15 are shipped; ships 0 and 1 laid,
     * ship 2 not; the tape "1:9,0:"; sheets 0 to 2 of lanes 0 to 2, sheet 3 nothing. Entries 0 to 2.
     */
    static SaltPool busy() {
        SaltPool x = new SaltPool();
        x.works(3);
        x.works(5);
        x.works(2);
        x.total(1000);
        x.lot(0, 700, 120);
        x.lot(1, 950, 80);
        x.weeks(7);
        x.lot(2, 10, 60);
        x.rail(0, 90);
        x.rail(1, 80);
        x.rail(2, 20);
        x.lend(0, 1, 40);
        x.shut(2, true, 20);
        x.shut(2, false, 30);
        x.ship(2, 100, 20, 3, 5);
        x.ship(0, 60, 30, 1, 7);
        x.ship(4, 50, 10, 0, 2);
        x.load(0, 0, 50);
        x.load(0, 1, 20);
        x.load(1, 2, 15);
        row(x, 0, 0, 3, 9, -1, 0, 6);
        row(x, 1, 1, 1, 2, 8, 4);
        row(x, 2, 2, 7, 5, 12);
        x.surf(1, 0, 0, 0, 3);
        x.surf(10, 1, 1, 1, 1);
        x.bar(6);
        x.lay(3);
        Tapes.type(x, "1:9,0:");
        return x;
    }

    /** No place is left anywhere: 8 works, 60 lots, 100 entries, 6 ships, 70 bytes, week 51, rows of 60 items. */
    static SaltPool full() {
        SaltPool x = new SaltPool();
        for (int w = 0; w < 8; w++) {
            x.works(w + 1);
        }
        x.total(1000000);
        for (int lot = 0; lot < 60; lot++) {
            x.lot(lot % 8, lot, 100 + lot);
        }
        for (int entry = 0; entry < 50; entry++) {
            x.lend(entry % 8, (entry + 1) % 8, 1 + entry);
            x.shut(entry % 8, entry % 3 == 0 || entry == 49, entry + 1);
        }
        x.weeks(51);
        for (int ship = 0; ship < 6; ship++) {
            x.ship(ship, 10 + ship, 5, ship, 1 + ship);
        }
        x.rail(59, 30);
        x.load(5, 59, 15);
        x.load(0, 59, 3);
        for (int sheet = 0; sheet < 4; sheet++) {
            x.sheet(sheet, sheet % 3, 60);
            x.item(sheet, sheet % 3, 59, 9 - sheet);
        }
        x.surf(0, 3, 0, 0, 60);
        x.lay(63);
        Tapes.type(x, " ".repeat(66) + "7: 9");
        return x;
    }

    /** Works of these parts, and a total. */
    static SaltPool pool(int total, int... parts) {
        SaltPool x = new SaltPool();
        for (int part : parts) {
            x.works(part);
        }
        x.total(total);
        return x;
    }

    static void row(SaltPool x, int sheet, int lane, int... items) {
        x.sheet(sheet, lane, items.length);
        for (int k = 0; k < items.length; k++) {
            x.item(sheet, lane, k, items[k]);
        }
    }

    /** Surf of days from a day on, through sheet 3; below 0 is unread. */
    static void read(SaltPool x, int day, int... surf) {
        row(x, 3, 2, surf);
        x.surf(day, 3, 2, 0, surf.length);
    }

    /** Surf of so many days from a day on, all alike, through sheet 3. */
    static void readAlike(SaltPool x, int day, int days, int surf) {
        int[] all = new int[days];
        java.util.Arrays.fill(all, surf);
        read(x, day, all);
    }
}
