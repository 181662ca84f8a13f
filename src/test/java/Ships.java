/** Ships in states that several tests begin from. */
final class Ships {
    private Ships() {
    }

    /** TIDE of all HOURS. */
    static void tideAll(BeachedShip x, int v) {
        long eight = 0;
        for (int i = 0; i < 8; i++) {
            eight = eight << 8 | v;
        }
        for (int h = 0; h < 96; h += 8) {
            Due.is(8, x.tides(h, 8, eight), "tides for all HOURS");
        }
    }

    static void hours(BeachedShip x, int n) {
        for (int i = 0; i < n; i++) {
            x.hour(0);
        }
    }

    /** One that bears any HEEL: six TACKLES that are strong on three masts. */
    static BeachedShip strong() {
        BeachedShip x = new BeachedShip();
        for (int m = 0; m < 3; m++) {
            x.rule(5 + m, 1000);
            x.tackle(m, 6, 400);
            x.tackle(m, 6, 400);
        }
        return x;
    }

    /** HEEL goes to this, an HOUR each. */
    static void heelTo(BeachedShip x, int to) {
        int by = to > x.ship(2) ? 1 : -1;
        for (int i = 0; i < 18 && x.ship(2) != to; i++) {
            x.heel(by);
            x.hour(0);
        }
        Due.is(to, x.ship(2), "HEEL to begin with");
    }

    /** LOST: WATER 110, HOUR 12. Two SEAMS; the first is OPEN, the second OLD. */
    static BeachedShip lost() {
        BeachedShip x = new BeachedShip();
        tideAll(x, 60);
        x.tide(0, 0);
        x.seam(10, 0, 1, 4, 0, 5);
        x.seam(10, 0, 1, 4, 0, 5);
        x.hour(1);
        hours(x, 11);
        Due.is(1, x.ship(7), "LOST to begin with");
        return x;
    }
}
