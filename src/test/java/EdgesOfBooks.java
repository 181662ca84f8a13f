/** The edges that the fourth part of the Terms names: a test of its own for each sentence. */
final class EdgesOfBooks {
    private EdgesOfBooks() {
    }

    static void all() {
        allPlanks();
        allBooks();
    }

    private static BeachedShip lowTide() {
        BeachedShip x = new BeachedShip();
        Ships.tideAll(x, 0);
        return x;
    }

    private static void allPlanks() {
        planks0To29();
        aGapAtFirst();
        wormInDullOnes();
        wormAmong1To30();
        runsSideBySide();
    }

    private static void planks0To29() {
        String s = "PLANKS 0 to 29 are TAPPED: ";
        BeachedShip x = new BeachedShip();
        Due.is(-100, x.tap(-1, 0), s + "not -1");
        Due.is(-100, x.tap(30, 0), s + "not 30");
        Due.is(-100, x.tap(0, -2), s + "not by -2");
        Due.is(-100, x.tap(0, 2), s + "not by 2");
        int[] taps = {0, 1, -1, 1, 0, -1};
        int[] ends = {0, 29};
        for (int p : ends) {
            int was = -1;
            for (int v : taps) {
                Due.is(was, x.tap(p, v), s + p + " by " + v);
                was = v;
            }
        }
    }

    private static void aGapAtFirst() {
        BeachedShip x = new BeachedShip();
        Due.is(0, x.worm(30, 0), "a GAP (at first): none need have WORM");
        Due.is(30, x.worm(30, 1), "a GAP (at first): all may have WORM");
        for (int p = 0; p < 30; p++) {
            Due.is(-1, x.tap(p, 0), "a GAP (at first): " + p);
        }
    }

    private static void wormIs(BeachedShip x, int n, String s, int... due) {
        for (int what = 0; what < 4; what++) {
            Due.is(due[what], x.worm(n, what), s + ": what " + what + " of " + n);
        }
    }

    private static void wormInDullOnes() {
        String s = "WORM is in dull ones, not in sound ones; in GAPS as may be: ";
        BeachedShip x = new BeachedShip();
        x.tap(0, 0);
        wormIs(x, 1, s + "a sound one", 0, 0, 0, 0);
        x.tap(0, 1);
        wormIs(x, 1, s + "a dull one", 1, 1, 1, 1);
        x.tap(0, -1);
        wormIs(x, 1, s + "a GAP", 0, 1, 0, 1);
    }

    private static void wormAmong1To30() {
        String s = "WORM among PLANKS 0 to n - 1 (1 to 30): ";
        BeachedShip x = new BeachedShip();
        Due.is(-1, x.worm(0, 0), s + "not 0");
        Due.is(-1, x.worm(31, 0), s + "not 31");
        for (int p = 0; p < 30; p++) {
            x.tap(p, 0);
        }
        x.tap(1, 1);
        x.tap(29, 1);
        wormIs(x, 1, s + "not PLANK 1", 0, 0, 0, 0);
        wormIs(x, 2, s + "PLANK 1", 1, 1, 1, 1);
        wormIs(x, 29, s + "not PLANK 29", 1, 1, 1, 1);
        wormIs(x, 30, s + "PLANK 29", 2, 2, 2, 2);
    }

    private static void tapAll(BeachedShip x, int... taps) {
        for (int p = 0; p < taps.length; p++) {
            x.tap(p, taps[p]);
        }
    }

    private static void runsSideBySide() {
        String s = "least and most RUNS (side by side): ";
        BeachedShip x = new BeachedShip();
        tapAll(x, 1, 1, 1);
        wormIs(x, 3, s + "three dull ones are one", 3, 3, 1, 1);
        tapAll(x, 1, 0, 1);
        wormIs(x, 3, s + "a sound one parts them", 2, 2, 2, 2);
        tapAll(x, 1, -1, 1);
        wormIs(x, 3, s + "a GAP may part them", 2, 3, 1, 2);
        tapAll(x, -1, 1, -1);
        wormIs(x, 3, s + "GAPS beside a dull one are no other RUNS", 1, 3, 1, 1);
        tapAll(x, -1, -1, 1);
        wormIs(x, 3, s + "one GAP farther off may be", 1, 3, 1, 2);
        tapAll(x, 0, -1, 0, 1);
        wormIs(x, 4, s + "a GAP by itself", 1, 2, 1, 2);
        tapAll(x, 1, -1, -1, 1, 0, 1, -1, 0, -1, 1);
        wormIs(x, 10, s + "GAPS join the first two alone", 4, 8, 3, 4);
    }

    private static void allBooks() {
        hoursOfMen();
        tacklesThatParted();
        thingsMoved();
        worthOfTightOnes();
        kept3AtMost();
        backOfNone();
        keptIsAllThatGoesByHours();
        keptIsNotWhatDoesNot();
        whatCameSinceIsGone();
        aSeamThatCameSinceLeavesNoWork();
    }

    private static void hoursOfMen() {
        String s = "HOURS of MEN that worked (HANDS, each HOUR): ";
        BeachedShip x = lowTide();
        x.rule(3, 12);
        x.seam(5, 0, 6, 1, 10, 1);
        x.seam(5, 0, 6, 1, 10, 1);
        int[] orders = {0, 1, 3, 3, 3};
        int[] hours = {0, 6, 18, 24, 24};
        for (int i = 0; i < orders.length; i++) {
            x.hour(orders[i]);
            Due.is(hours[i], x.book(1), s + "behind HOUR " + i);
        }
    }

    private static void tacklesThatParted() {
        String s = "TACKLES that PARTED: ";
        BeachedShip x = new BeachedShip();
        x.tackle(0, 1, 40);
        x.rig(0, false);
        Due.is(0, x.book(2), s + "not one that was taken off");
        for (int i = 1; i <= 2; i++) {
            x.rule(1, 400);
            x.rig(0, true);
            x.heel(1);
            x.rule(1, 410);
            x.hour(0);
            Due.is(i, x.book(2), s + "the same one again");
        }
    }

    private static void thingsMoved() {
        String s = "THINGS moved: ";
        BeachedShip x = new BeachedShip();
        x.thing(1, -1);
        for (int i = 1; i <= 3; i++) {
            x.move(0);
            x.move(0);
            Due.is(i, x.book(3), s + "OUT and IN, not one that did not");
            x.hour(0);
        }
    }

    private static void worthOfTightOnes() {
        String s = "WORTH of TIGHT ones: ";
        BeachedShip x = lowTide();
        x.rule(3, 20);
        for (int i = 0; i < 12; i++) {
            x.seam(5, 0, 1, 1, 0, 100);
        }
        Due.is(0, x.book(4), s + "all OLD");
        x.hour(4095);
        Due.is(0, x.book(4), s + "all OPEN");
        x.hour(1 << 11);
        Due.is(100, x.book(4), s + "the last");
        x.hour(4095);
        Due.is(1200, x.book(4), s + "all");
    }

    private static void kept3AtMost() {
        String s = "KEPT: 3 at most: ";
        BeachedShip x = new BeachedShip();
        for (int i = 1; i <= 3; i++) {
            Due.is(i, x.keep(), s + i);
            x.hour(0);
        }
        Due.is(-3, x.keep(), s + "FULL");
        Due.is(3, x.count(8), s + "3 stay");
        for (int left = 2; left >= 0; left--) {
            Due.is(left, x.back(), s + "left");
            Due.is(left, x.count(7), s + "the HOUR of that one, and not of the one that was refused");
        }
        Due.is(1, x.keep(), s + "room again");
    }

    private static void backOfNone() {
        String s = "As KEPT last; NO, of none: ";
        BeachedShip x = new BeachedShip();
        x.hour(0);
        Due.is(-2, x.back(), s + "none was KEPT");
        Due.is(1, x.count(7), s + "the HOUR stays");
        x.keep();
        x.hour(0);
        Due.is(0, x.back(), s + "one was");
        Due.is(-2, x.back(), s + "none is left");
        Due.is(1, x.count(7), s + "the HOUR stays as KEPT");
    }

    /** Of all sorts, in HOUR 3: WATER, PITCH taken, a rope parted, THE BOAT used and HEEL gone in it. */
    private static BeachedShip ofAllSorts() {
        BeachedShip x = lowTide();
        x.tide(1, 38);
        x.thing(50, -1);
        x.thing(30, 0);
        x.thing(20, -1);
        x.tackle(0, 2, 200);
        x.tackle(1, 3, 100);
        x.tackle(2, 1, 10);
        x.rig(2, false);
        x.seam(8, 0, 3, 1, 5, 9);
        x.seam(9, 1, 2, 2, 4, 7);
        x.seam(2, 0, 1, 1, 3, 5);
        x.move(1);
        x.heel(1);
        x.hour(3);
        x.tackle(2, 1, 1);
        x.hour(0);
        x.move(2);
        x.heel(1);
        x.hour(3);
        x.move(0);
        x.heel(-1);
        return x;
    }

    private static void workOn(BeachedShip x) {
        x.thing(7, -1);
        x.tackle(0, 6, 400);
        x.seam(10, 0, 1, 1, 1, 1);
        x.hour(15);
        x.move(1);
        x.heel(-1);
        x.rig(0, false);
        x.rig(2, true);
        x.hour(15);
        x.tide(5, 60);
        x.seam(10, 0, 1, 1, 1, 1);
        x.hour(15);
        x.hour(16);
        x.hour(0);
        x.move(2);
        x.heel(1);
        x.tide(5, 0);
    }

    private static void keptIsAllThatGoesByHours() {
        String s = "KEPT is all that goes by HOURS (THINGS, TACKLES, HEEL, SEAMS, WATER, PITCH, THE BOOK, HOUR): ";
        BeachedShip as = ofAllSorts();
        int[] counts = {3, 0, 4, 2, 3, 1, 1, 3, 0};
        for (int w = 0; w < counts.length; w++) {
            Due.is(counts[w], as.count(w), s + "to begin with, count of " + w);
        }
        int[] book = {9, 10, 1, 3, 9, 91};
        for (int w = 0; w < book.length; w++) {
            Due.is(book[w], as.book(w), s + "to begin with, THE BOOK's " + w);
        }
        Due.is(15, as.ship(4), s + "to begin with, WATER");
        Due.is(1, as.ship(2), s + "to begin with, HEEL");
        BeachedShip x = ofAllSorts();
        x.keep();
        workOn(x);
        Due.is(0, x.back(), s + "back");
        String due = Told.of(as);
        String told = Told.of(x);
        Due.holds(due.equals(told), s + "as it was" + due + ", is" + told);
    }

    private static void keptIsNotWhatDoesNot() {
        String s = "KEPT is all that goes by HOURS, and nothing else: ";
        BeachedShip x = new BeachedShip();
        x.keep();
        x.tide(0, 5);
        x.rain(0, true);
        x.tap(0, 1);
        x.rule(0, 7);
        x.rule(1, 700);
        x.rule(7, 77);
        x.back();
        Due.is(5, x.tide(0, 0), s + "TIDE");
        Due.is(1, x.rain(0, false), s + "RAIN");
        Due.is(1, x.tap(0, 0), s + "a PLANK");
        Due.is(7, x.rule(0, 0), s + "BEACH");
        Due.is(700, x.rule(1, 100), s + "HULL");
        Due.is(77, x.rule(7, 0), s + "what a MAST bears");
    }

    private static void aSeamThatCameSinceLeavesNoWork() {
        String s = "SEAMS that came since are gone, and what was done on them: ";
        BeachedShip x = lowTide();
        x.keep();
        x.seam(5, 0, 1, 2, 0, 1);
        x.hour(1);
        x.hour(1);
        x.hour(1);
        Due.is(1, x.count(6), s + "TIGHT");
        x.back();
        Due.is(0, x.count(6), s + "none is TIGHT");
        Due.is(0, x.seam(5, 0, 1, 2, 0, 1), s + "another of that number");
        Due.is(0, x.seamTold(0, 0), s + "it is OLD");
        Due.is(0, x.seamTold(0, 2), s + "no work is done on it");
    }

    private static void whatCameSinceIsGone() {
        String s = "THINGS, TACKLES, SEAMS that came since are gone: ";
        BeachedShip x = new BeachedShip();
        x.keep();
        for (int i = 0; i < 12; i++) {
            x.thing(1, -1);
            x.seam(5, 0, 1, 1, 0, 1);
            x.tackle(0, 1, 1);
        }
        x.back();
        int[] counts = {0, 2, 4};
        for (int c : counts) {
            Due.is(0, x.count(c), s + "count of " + c);
        }
        Due.is(400, x.ship(0), s + "TOTAL");
        Due.is(-1, x.move(0), s + "there is no THING");
        Due.is(-1, x.rig(0, true), s + "there is no TACKLE");
        Due.is(-1, x.hour(1), s + "there is no SEAM");
        Due.is(-1, x.thing(1, 0), s + "there is none to lie on");
        Due.is(0, x.thing(1, -1), s + "numbers begin at 0 again");
        Due.is(0, x.tackle(0, 1, 1), s + "numbers begin at 0 again");
        Due.is(0, x.seam(5, 0, 1, 1, 0, 1), s + "numbers begin at 0 again");
    }
}
