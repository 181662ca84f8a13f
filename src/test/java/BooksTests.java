/** Promises 20 to 25: taps, THE BOOK, what is KEPT, and how many. */
final class BooksTests {
    private static final int LEAST = Integer.MIN_VALUE;
    private static final int MOST = Integer.MAX_VALUE;

    private BooksTests() {
    }

    static void all() {
        promise20Tap();
        promise21Worm();
        promise21AllRowsOfSeven();
        promise21Wrong();
        promise22Book();
        promise23Keep();
        promise24BackThings();
        promise24BackTackles();
        promise24BackSeams();
        promise24BackHour();
        promise24NotKept();
        promise25Count();
    }

    private static void promise20Tap() {
        BeachedShip x = new BeachedShip();
        int[] planks = {0, 1, 15, 29};
        for (int p : planks) {
            Due.is(-1, x.tap(p, 0), "P20 a GAP at first");
            Due.is(0, x.tap(p, 1), "P20 was sound");
            Due.is(1, x.tap(p, 1), "P20 was dull");
            Due.is(1, x.tap(p, -1), "P20 was dull still");
            Due.is(-1, x.tap(p, 1), "P20 was a GAP");
        }
        int[] badPlanks = {-1, 30, LEAST, MOST};
        for (int p : badPlanks) {
            Due.is(-100, x.tap(p, 0), "P20 PLANK " + p);
        }
        int[] badTaps = {-2, 2, LEAST, MOST};
        for (int v : badTaps) {
            Due.is(-100, x.tap(0, v), "P20 v " + v);
            Due.is(-100, x.tap(29, v), "P20 v " + v);
        }
        Due.is(1, x.tap(0, 0), "P20 BAD changes nothing");
        Due.is(1, x.tap(29, 0), "P20 BAD changes nothing");
        Due.is(-1, x.tap(2, 0), "P20 others stay");
    }

    private static void wormIs(BeachedShip x, int n, int least, int most, int leastRuns, int mostRuns, String what) {
        Due.is(least, x.worm(n, 0), what + ": least of " + n);
        Due.is(most, x.worm(n, 1), what + ": most of " + n);
        Due.is(leastRuns, x.worm(n, 2), what + ": least RUNS of " + n);
        Due.is(mostRuns, x.worm(n, 3), what + ": most RUNS of " + n);
    }

    private static void promise21Worm() {
        BeachedShip x = new BeachedShip();
        for (int n = 1; n <= 30; n++) {
            wormIs(x, n, 0, n, 0, (n + 1) / 2, "P21 GAPS alone");
        }
        for (int p = 0; p < 30; p++) {
            x.tap(p, 1);
        }
        for (int n = 1; n <= 30; n++) {
            wormIs(x, n, n, n, 1, 1, "P21 dull ones alone");
        }
        for (int p = 0; p < 30; p++) {
            x.tap(p, 0);
        }
        for (int n = 1; n <= 30; n++) {
            wormIs(x, n, 0, 0, 0, 0, "P21 sound ones alone");
        }
        x.tap(29, 1);
        wormIs(x, 29, 0, 0, 0, 0, "P21 the last is not among them");
        wormIs(x, 30, 1, 1, 1, 1, "P21 the last is among them");
        for (int p = 0; p < 30; p += 2) {
            x.tap(p, 1);
        }
        x.tap(29, 0);
        wormIs(x, 30, 15, 15, 15, 15, "P21 every other one dull");
        for (int p = 1; p < 30; p += 2) {
            x.tap(p, -1);
        }
        wormIs(x, 30, 15, 30, 1, 15, "P21 GAPS between");
        Due.is(0, x.count(7), "P21 changes nothing");
    }

    /** All ways to tap seven PLANKS, each beside all ways that WORM may be in them. */
    private static void promise21AllRowsOfSeven() {
        BeachedShip x = null;
        for (int code = 0; code < 2187; code++) {
            if (code % 40 == 0) {
                x = new BeachedShip();
            }
            int dull = 0;
            int gaps = 0;
            int rest = code;
            for (int p = 0; p < 7; p++) {
                int v = rest % 3 - 1;
                rest /= 3;
                x.tap(p, v);
                dull |= v == 1 ? 1 << p : 0;
                gaps |= v == -1 ? 1 << p : 0;
            }
            int leastRuns = 99;
            int mostRuns = 0;
            for (int worm = 0; worm < 128; worm++) {
                if ((worm & ~gaps) == dull) {
                    int runs = Integer.bitCount(worm & ~(worm << 1));
                    leastRuns = Math.min(leastRuns, runs);
                    mostRuns = Math.max(mostRuns, runs);
                }
            }
            Due.is(Integer.bitCount(dull), x.worm(7, 0), "P21 least, row " + code);
            Due.is(Integer.bitCount(dull | gaps), x.worm(7, 1), "P21 most, row " + code);
            Due.is(leastRuns, x.worm(7, 2), "P21 least RUNS, row " + code);
            Due.is(mostRuns, x.worm(7, 3), "P21 most RUNS, row " + code);
        }
    }

    private static void promise21Wrong() {
        BeachedShip x = new BeachedShip();
        int[] badN = {0, -1, 31, LEAST, MOST};
        for (int n : badN) {
            for (int what = 0; what < 4; what++) {
                Due.is(-1, x.worm(n, what), "P21 n " + n);
            }
        }
        int[] badWhat = {-1, 4, LEAST, MOST};
        for (int w : badWhat) {
            Due.is(-1, x.worm(5, w), "P21 what " + w);
        }
    }

    private static void bookIs(BeachedShip x, String what, int... book) {
        for (int w = 0; w < book.length; w++) {
            Due.is(book[w], x.book(w), what + ": THE BOOK's " + w);
        }
    }

    private static void promise22Book() {
        BeachedShip x = new BeachedShip();
        Ships.tideAll(x, 0);
        int[] bad = {-1, 6, LEAST, MOST};
        for (int w : bad) {
            Due.is(-1, x.book(w), "P22 what " + w);
        }
        x.seam(5, 0, 3, 1, 20, 7);
        x.seam(5, 0, 2, 2, 30, 9);
        x.thing(5, -1);
        x.tackle(0, 1, 40);
        bookIs(x, "P22 at first", 0, 0, 0, 0, 0, 100);
        x.move(0);
        x.heel(1);
        x.hour(3);
        bookIs(x, "P22 raked", 0, 5, 0, 1, 0, 100);
        x.hour(3);
        bookIs(x, "P22 one HOUR of work", 50, 10, 0, 1, 7, 50);
        x.move(0);
        x.hour(2);
        bookIs(x, "P22 both TIGHT; 40 of 40", 50, 12, 0, 2, 16, 50);
        x.rule(1, 406);
        x.hour(3);
        bookIs(x, "P22 41 of 40", 50, 12, 1, 2, 16, 50);
        x.rule(4, 3);
        bookIs(x, "P22 other PITCH", 50, 12, 1, 2, 16, 3);
        x.rig(0, true);
        x.rig(0, false);
        bookIs(x, "P22 taken off is not PARTED", 50, 12, 1, 2, 16, 3);
    }

    private static void promise23Keep() {
        BeachedShip x = new BeachedShip();
        for (int i = 1; i <= 3; i++) {
            Due.is(i, x.keep(), "P23 KEPT");
            Due.is(i, x.count(8), "P23 count of KEPT");
        }
        Due.is(-3, x.keep(), "P23 FULL");
        Due.is(-3, x.keep(), "P23 FULL again");
        Due.is(3, x.count(8), "P23 FULL changes nothing");
        Due.is(2, x.back(), "P23 one less");
        Due.is(3, x.keep(), "P23 room again");
        for (int left = 2; left >= 0; left--) {
            Due.is(left, x.back(), "P24 left");
        }
        Due.is(-2, x.back(), "P24 none left");
        Due.is(0, x.count(8), "P24 NO changes nothing");
        Due.is(1, x.keep(), "P23 from the beginning");
        Due.is(1, Ships.lost().keep(), "P23 LOST does not matter");
    }

    private static void promise24BackThings() {
        BeachedShip x = new BeachedShip();
        x.thing(10, -1);
        x.thing(20, 0);
        x.keep();
        x.move(1);
        x.hour(0);
        x.move(0);
        x.thing(40, -1);
        x.keep();
        x.thing(50, 2);
        x.hour(0);
        x.move(0);
        Due.is(500, x.ship(0), "P24 TOTAL now");
        Due.is(1, x.back(), "P24 one left");
        Due.is(440, x.ship(0), "P24 TOTAL as KEPT last");
        Due.is(3, x.count(0), "P24 THINGS that came since are gone");
        Due.is(2, x.book(3), "P24 moved, as KEPT last");
        Due.is(0, x.back(), "P24 none left");
        Due.is(430, x.ship(0), "P24 TOTAL as KEPT first");
        Due.is(2, x.count(0), "P24 THINGS as KEPT first");
        Due.is(2, x.count(1), "P24 both IN");
        Due.is(0, x.book(3), "P24 none moved");
        Due.is(-2, x.move(0), "P24 they lie as they lay");
        Due.is(2, x.thing(5, 1), "P24 numbers begin there again");
        Due.is(435, x.ship(0), "P24 another THING of that number");
    }

    private static void promise24BackTackles() {
        BeachedShip x = new BeachedShip();
        x.tackle(0, 1, 100);
        x.tackle(1, 1, 40);
        x.rig(1, false);
        x.heel(1);
        x.keep();
        x.rig(1, true);
        x.rule(1, 1000);
        x.tackle(2, 1, 7);
        x.hour(0);
        Due.is(1, x.count(3), "P24 ropes parted");
        Due.is(2, x.book(2), "P24 two PARTED");
        x.rig(1, true);
        x.hour(0);
        x.heel(-1);
        Due.is(0, x.back(), "P24 back");
        Due.is(2, x.count(2), "P24 TACKLES that came since are gone");
        Due.is(1, x.tackleTold(0, 3), "P24 WHOLE as it was");
        Due.is(0, x.tackleTold(1, 3), "P24 off as it was");
        Due.is(0, x.book(2), "P24 none PARTED");
        Due.is(1, x.ship(2), "P24 HEEL as it was");
        Due.is(2, x.tackle(2, 2, 9), "P24 numbers begin there again");
        Due.is(9, x.tackleTold(2, 2), "P24 another TACKLE of that number");
    }

    private static void promise24BackSeams() {
        BeachedShip x = new BeachedShip();
        Ships.tideAll(x, 0);
        x.seam(5, 0, 2, 2, 10, 3);
        x.seam(5, 0, 2, 1, 10, 4);
        x.hour(3);
        x.hour(1);
        x.keep();
        x.hour(3);
        x.seam(5, 1, 3, 1, 1, 5);
        x.tide(3, 60);
        x.hour(7);
        Due.is(20, x.book(0), "P24 PITCH taken");
        x.rule(4, 999);
        Due.is(0, x.back(), "P24 back");
        Due.is(2, x.count(4), "P24 SEAMS that came since are gone");
        Due.is(2, x.count(5), "P24 OPEN as they were");
        Due.is(0, x.count(6), "P24 none TIGHT");
        Due.is(1, x.seamTold(0, 2), "P24 work as it was");
        Due.is(0, x.seamTold(1, 2), "P24 work as it was");
        Due.is(10, x.book(0), "P24 PITCH taken as it was");
        Due.is(90, x.book(5), "P24 PITCH left as it was");
        Due.is(90, x.rule(4, 90), "P24 PITCH is KEPT, though it is a rule");
        Due.is(6, x.book(1), "P24 HOURS of MEN as they were");
        Due.is(2, x.seam(5, 0, 6, 1, 0, 1), "P24 numbers begin there again");
        Due.is(0, x.seamTold(2, 0), "P24 another SEAM of that number");
        x.tide(2, 60);
        x.hour(0);
        x.keep();
        x.hour(0);
        Due.is(0, x.back(), "P24 back");
        Due.is(20, x.ship(4), "P24 WATER as it was");
    }

    private static void promise24BackHour() {
        BeachedShip x = Ships.strong();
        x.thing(5, -1);
        x.keep();
        x.move(0);
        x.heel(1);
        Due.is(0, x.back(), "P24 back in the same HOUR");
        Due.is(400, x.move(0), "P24 THE BOAT as it was: not used");
        Due.is(1, x.heel(1), "P24 HEEL as it was: it had not gone");
        x.keep();
        Ships.hours(x, 3);
        Due.is(3, x.count(7), "P24 HOUR 3");
        Due.is(0, x.back(), "P24 back");
        Due.is(0, x.count(7), "P24 the HOUR as it was");
        Due.is(-2, x.move(0), "P24 THE BOAT as it was: used");
        Due.is(-102, x.heel(1), "P24 HEEL as it was: it had gone");
        BeachedShip y = Ships.lost();
        y.keep();
        y.back();
        Due.is(1, y.ship(7), "P24 KEPT when LOST: LOST");
        Due.is(-2, y.hour(0), "P24 KEPT when LOST: no HOUR goes by");
        BeachedShip z = new BeachedShip();
        Ships.tideAll(z, 60);
        z.tide(0, 0);
        z.seam(1, 0, 1, 1, 0, 1);
        z.hour(1);
        z.keep();
        Ships.hours(z, 11);
        Due.is(1, z.ship(7), "P24 LOST");
        z.back();
        Due.is(0, z.ship(7), "P24 not LOST as KEPT");
        Due.is(10, z.hour(0), "P24 HOURS go by again");
    }

    private static void promise24NotKept() {
        BeachedShip x = new BeachedShip();
        x.keep();
        for (int what = 0; what < 8; what++) {
            x.rule(what, 20);
        }
        x.rule(1, 120);
        x.tide(5, 55);
        x.rain(5, true);
        x.tap(5, 1);
        Due.is(0, x.back(), "P24 back");
        int[] rules = {20, 120, 20, 20, 100, 20, 20, 20};
        for (int what = 0; what < 8; what++) {
            Due.is(rules[what], x.rule(what, rules[what]), "P24 rules are not KEPT, but for PITCH: " + what);
        }
        Due.is(55, x.tide(5, 1), "P24 TIDES are not KEPT");
        Due.is(1, x.rain(5, false), "P24 RAIN is not KEPT");
        Due.is(1, x.tap(5, 0), "P24 PLANKS are not KEPT");
    }

    private static void countIs(BeachedShip x, String what, int... counts) {
        for (int w = 0; w < counts.length; w++) {
            Due.is(counts[w], x.count(w), what + ": count of " + w);
        }
    }

    private static void promise25Count() {
        BeachedShip x = new BeachedShip();
        int[] bad = {-1, 9, LEAST, MOST};
        for (int w : bad) {
            Due.is(-1, x.count(w), "P25 what " + w);
        }
        Ships.tideAll(x, 0);
        x.thing(1, -1);
        x.thing(1, 0);
        x.thing(1, 1);
        x.tackle(0, 1, 1);
        x.tackle(0, 1, 1);
        for (int s = 0; s < 4; s++) {
            x.seam(5, 0, 1, 1, 0, 1);
        }
        countIs(x, "P25 brought", 3, 3, 2, 2, 4, 0, 0, 0, 0);
        x.move(2);
        x.rig(0, false);
        x.keep();
        x.hour(7);
        countIs(x, "P25 raked", 3, 2, 2, 1, 4, 3, 0, 1, 1);
        x.keep();
        x.hour(1);
        x.rig(1, false);
        countIs(x, "P25 one TIGHT", 3, 2, 2, 0, 4, 2, 1, 2, 2);
    }
}
