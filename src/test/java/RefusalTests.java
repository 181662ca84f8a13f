import java.util.function.Supplier;
import java.util.function.ToIntFunction;

/** Every call that the promises refuse: BAD, NO, FULL, of several the first; and that nothing changes then. */
final class RefusalTests {
    private static final int BAD = -1;
    private static final int NO = -2;
    private static final int FULL = -3;
    private static final int BAD_BEYOND_HEEL = -100;
    private static final int NO_BEYOND_HEEL = -102;
    private static final int LEAST = Integer.MIN_VALUE;
    private static final int MOST = Integer.MAX_VALUE;

    private static final int[] NO_HOURS = {-1, 96, LEAST, MOST};
    private static final int[] NO_TIDES = {-1, 61, 255, LEAST, MOST};

    private RefusalTests() {
    }

    static void all() {
        shipsAreAsTold();
        promise2();
        promise3();
        promise4();
        promise5();
        promise6();
        promise7();
        promise8();
        promises9And10();
        promise12();
        promise13();
        promise14();
        promise15();
        promise16();
        promise17();
        promise18();
        promise19();
        promise20();
        promise21();
        promise22();
        promises23And24();
        promise25();
        bigNumbersDoNotWrapAround();
    }

    private static void refuses(int want, Supplier<BeachedShip> made, ToIntFunction<BeachedShip> call, String what) {
        Told.refuses(want, made, call, what);
    }

    /** In the midst of her work: one of all sorts, HOUR 2, THE BOAT used and HEEL gone in it, one KEPT. */
    private static BeachedShip midst() {
        BeachedShip x = new BeachedShip();
        for (int h = 0; h < 8; h++) {
            x.tide(h, 10 + h);
        }
        x.rain(3, true);
        x.tap(0, 1);
        x.tap(2, 0);
        x.thing(50, -1);
        x.thing(30, 0);
        x.thing(20, -1);
        x.tackle(0, 2, 200);
        x.tackle(1, 3, 100);
        x.tackle(2, 1, 150);
        x.rig(2, false);
        x.seam(8, 0, 3, 2, 5, 9);
        x.seam(9, 1, 2, 1, 4, 7);
        x.seam(2, 0, 1, 1, 3, 5);
        x.move(1);
        x.heel(1);
        x.hour(3);
        x.hour(2);
        x.keep();
        x.move(2);
        x.heel(1);
        return x;
    }

    private static BeachedShip full() {
        BeachedShip x = new BeachedShip();
        for (int i = 0; i < 12; i++) {
            x.thing(1 + i, -1);
            x.seam(1 + i % 10, i % 2, 1 + i % 6, 1 + i % 4, i, 1 + i);
        }
        for (int i = 0; i < 6; i++) {
            x.tackle(i % 3, 1 + i, 100 + i);
        }
        x.move(11);
        return x;
    }

    /** LOST, with a THING, a TACKLE and two SEAMS. */
    private static BeachedShip lost() {
        BeachedShip x = Ships.lost();
        x.thing(10, -1);
        x.tackle(0, 6, 400);
        return x;
    }

    private static BeachedShip behindHour95() {
        BeachedShip x = new BeachedShip();
        x.thing(10, -1);
        x.tackle(0, 6, 400);
        x.seam(9, 0, 1, 1, 0, 1);
        Ships.hours(x, 96);
        return x;
    }

    private static void countsAre(BeachedShip x, String s, int... counts) {
        for (int w = 0; w < counts.length; w++) {
            Due.is(counts[w], x.count(w), s + " to begin with: count of " + w);
        }
    }

    private static void shipsAreAsTold() {
        countsAre(midst(), "in the midst", 3, 1, 3, 2, 3, 1, 1, 2, 1);
        Due.is(2, midst().ship(2), "in the midst to begin with: HEEL");
        Due.is(1, midst().ship(6), "in the midst to begin with: it HOLDS");
        countsAre(full(), "full", 12, 11, 6, 6, 12, 0, 0, 0, 0);
        countsAre(lost(), "LOST", 1, 1, 1, 1, 2, 1, 0, 12, 0);
        Due.is(1, lost().ship(7), "LOST to begin with");
        countsAre(behindHour95(), "behind HOUR 95", 1, 1, 1, 1, 1, 0, 0, 96, 0);
        countsAre(lyingOn(), "lying on", 4, 3, 0, 0, 0, 0, 0, 1, 0);
        countsAre(allOut(), "all OUT", 4, 0, 0, 0, 0, 0, 0, 4, 0);
        countsAre(outAreNine(), "nine OUT", 9, 0, 0, 0, 0, 0, 0, 9, 0);
        countsAre(keptThrice(), "KEPT thrice", 3, 1, 3, 2, 3, 1, 1, 5, 3);
        countsAre(keptNoMore(), "KEPT no more", 3, 2, 3, 2, 3, 1, 1, 3, 0);
    }

    private static void promise2() {
        for (int h : NO_HOURS) {
            refuses(BAD, RefusalTests::midst, x -> x.tide(h, 30), "P2 BAD: there is no HOUR " + h);
        }
        for (int v : NO_TIDES) {
            refuses(BAD, RefusalTests::midst, x -> x.tide(0, v), "P2 BAD: TIDE is 0 to 60, not " + v);
        }
    }

    private static void promise3() {
        for (int h : NO_HOURS) {
            refuses(BAD, RefusalTests::midst, x -> x.tides(h, 1, 5L), "P3 BAD: there is no HOUR " + h);
        }
        int[] noSizes = {0, -1, 9, LEAST, MOST};
        for (int n : noSizes) {
            refuses(BAD, RefusalTests::midst, x -> x.tides(0, n, 0L), "P3 BAD: n is 1 to 8, not " + n);
        }
        for (int n = 2; n <= 8; n++) {
            int size = n;
            refuses(BAD, RefusalTests::midst, x -> x.tides(97 - size, size, 0L), "P3 BAD: the last is HOUR 96, n " + n);
        }
        refuses(BAD, RefusalTests::midst, x -> x.tides(95, 8, 0L), "P3 BAD: the last is HOUR 102");
        long[] noTides = {61L, 61L << 16, 61L << 56, 255L << 8, 128L << 56, -1L, Long.MIN_VALUE};
        for (long v : noTides) {
            refuses(BAD, RefusalTests::midst, x -> x.tides(0, 8, v), "P3 BAD: TIDE is 0 to 60 in each of " + v);
        }
        for (int n = 1; n <= 7; n++) {
            int size = n;
            refuses(BAD, RefusalTests::midst, x -> x.tides(0, size, 1L << (8 * size)), "P3 BAD: other bits, n " + n);
            refuses(BAD, RefusalTests::midst, x -> x.tides(0, size, 1L << 56), "P3 BAD: other bits far up, n " + n);
            refuses(BAD, RefusalTests::midst, x -> x.tides(0, size, Long.MIN_VALUE), "P3 BAD: the highest bit, n " + n);
        }
    }

    private static void promise4() {
        for (int h : NO_HOURS) {
            refuses(BAD, RefusalTests::midst, x -> x.rain(h, true), "P4 BAD: there is no HOUR " + h);
            refuses(BAD, RefusalTests::midst, x -> x.rain(h, false), "P4 BAD: there is no HOUR " + h + ", dry");
        }
    }

    private static void promise5() {
        int[] noRules = {-1, 8, LEAST, MOST};
        for (int r : noRules) {
            refuses(BAD, RefusalTests::midst, x -> x.rule(r, 100), "P5 BAD: there is no rule " + r);
        }
        int[] least = {0, 100, 0, 1, 0, 0, 0, 0};
        int[] most = {40, 1000, 2000, 20, 1000, 1000, 1000, 1000};
        for (int r = 0; r < 8; r++) {
            int what = r;
            int[] none = {least[r] - 1, most[r] + 1, LEAST, MOST};
            for (int v : none) {
                refuses(BAD, RefusalTests::midst, x -> x.rule(what, v), "P5 BAD: rule " + r + " is not " + v);
            }
        }
    }

    private static void promise6() {
        int[] noWeights = {0, -1, 101, LEAST, MOST};
        for (int w : noWeights) {
            refuses(BAD, RefusalTests::midst, x -> x.thing(w, -1), "P6 BAD: weight is 1 to 100, not " + w);
        }
        int[] noThings = {-2, 3, 11, 12, LEAST, MOST};
        for (int u : noThings) {
            refuses(BAD, RefusalTests::midst, x -> x.thing(5, u), "P6 BAD: there is no THING " + u);
        }
        refuses(BAD, BeachedShip::new, x -> x.thing(5, 0), "P6 BAD: there is no THING at all");
        refuses(NO, RefusalTests::midst, x -> x.thing(5, 1), "P6 NO: that is OUT");
        refuses(FULL, RefusalTests::full, x -> x.thing(5, -1), "P6 FULL: 12");
        refuses(FULL, RefusalTests::full, x -> x.thing(5, 0), "P6 FULL: 12, UNDER it one that is IN");
        refuses(BAD, RefusalTests::midst, x -> x.thing(0, 1), "P6 of several the first: BAD ahead of NO");
        refuses(BAD, RefusalTests::full, x -> x.thing(101, 0), "P6 of several the first: BAD ahead of FULL");
        refuses(BAD, RefusalTests::full, x -> x.thing(5, 12), "P6 of several the first: no THING 12 ahead of FULL");
        refuses(NO, RefusalTests::full, x -> x.thing(5, 11), "P6 of several the first: NO ahead of FULL");
        refuses(BAD, RefusalTests::full, x -> x.thing(101, 11), "P6 of several the first: BAD ahead of both");
    }

    private static void promise7() {
        int[] noMasts = {-1, 3, LEAST, MOST};
        for (int m : noMasts) {
            refuses(BAD, RefusalTests::midst, x -> x.tackle(m, 1, 1), "P7 BAD: there is no MAST " + m);
        }
        int[] noParts = {0, -1, 7, LEAST, MOST};
        for (int p : noParts) {
            refuses(BAD, RefusalTests::midst, x -> x.tackle(0, p, 1), "P7 BAD: PARTS is 1 to 6, not " + p);
        }
        int[] noStrengths = {0, -1, 401, LEAST, MOST};
        for (int s : noStrengths) {
            refuses(BAD, RefusalTests::midst, x -> x.tackle(0, 1, s), "P7 BAD: STRENGTH is 1 to 400, not " + s);
        }
        refuses(FULL, RefusalTests::full, x -> x.tackle(0, 1, 1), "P7 FULL: 6");
        refuses(BAD, RefusalTests::full, x -> x.tackle(3, 1, 1), "P7 of several the first: MAST ahead of FULL");
        refuses(BAD, RefusalTests::full, x -> x.tackle(0, 7, 1), "P7 of several the first: PARTS ahead of FULL");
        refuses(BAD, RefusalTests::full, x -> x.tackle(0, 1, 0), "P7 of several the first: STRENGTH ahead of FULL");
    }

    private static void promise8() {
        String[] names = {"STRAKE", "SIDE", "HANDS", "LONG", "PITCH", "WORTH"};
        int[] least = {1, 0, 1, 1, 0, 1};
        int[] most = {10, 1, 6, 4, 50, 100};
        for (int i = 0; i < 6; i++) {
            int[] none = {least[i] - 1, most[i] + 1, LEAST, MOST};
            for (int v : none) {
                int[] a = {5, 0, 2, 2, 10, 10};
                a[i] = v;
                ToIntFunction<BeachedShip> call = x -> x.seam(a[0], a[1], a[2], a[3], a[4], a[5]);
                refuses(BAD, RefusalTests::midst, call, "P8 BAD: " + names[i] + " is not " + v);
                refuses(BAD, RefusalTests::full, call, "P8 of several the first: " + names[i] + " ahead of FULL");
            }
        }
        refuses(FULL, RefusalTests::full, x -> x.seam(5, 0, 2, 2, 10, 10), "P8 FULL: 12");
    }

    private static void promises9And10() {
        int[] noShips = {-1, 8, LEAST, MOST};
        for (int w : noShips) {
            refuses(BAD_BEYOND_HEEL, RefusalTests::midst, x -> x.ship(w), "P9 BAD -100: what " + w);
        }
        int[] noTackles = {-1, 3, 6, LEAST, MOST};
        int[] noTold = {-1, 4, LEAST, MOST};
        for (int t : noTackles) {
            for (int w = 0; w < 4; w++) {
                int what = w;
                refuses(BAD, RefusalTests::midst, x -> x.tackleTold(t, what), "P10 BAD: there is no TACKLE " + t);
            }
        }
        for (int w : noTold) {
            refuses(BAD, RefusalTests::midst, x -> x.tackleTold(0, w), "P10 BAD: what " + w);
            refuses(BAD, RefusalTests::midst, x -> x.tackleTold(2, w), "P10 BAD: what, of one that is off, " + w);
        }
        refuses(BAD, BeachedShip::new, x -> x.tackleTold(0, 3), "P10 BAD: there is no TACKLE at all");
    }

    private static void promise12() {
        int[] noSeams = {-1, 3, 12, LEAST, MOST};
        for (int s : noSeams) {
            for (int w = 0; w < 4; w++) {
                int what = w;
                refuses(BAD, RefusalTests::midst, x -> x.seamTold(s, what), "P12 BAD: there is no SEAM " + s);
            }
        }
        int[] noTold = {-1, 4, LEAST, MOST};
        for (int w : noTold) {
            refuses(BAD, RefusalTests::midst, x -> x.seamTold(0, w), "P12 BAD: what " + w);
        }
        refuses(BAD, RefusalTests::full, x -> x.seamTold(12, 0), "P12 BAD: twelve are 0 to 11");
        refuses(BAD, BeachedShip::new, x -> x.seamTold(0, 0), "P12 BAD: there is no SEAM at all");
    }

    private static BeachedShip lyingOn() {
        BeachedShip x = new BeachedShip();
        x.thing(10, -1);
        x.thing(20, 0);
        x.thing(30, 0);
        x.thing(40, 2);
        x.move(1);
        x.hour(0);
        return x;
    }

    private static BeachedShip allOut() {
        BeachedShip x = lyingOn();
        int[] things = {3, 2, 0};
        for (int t : things) {
            x.move(t);
            x.hour(0);
        }
        return x;
    }

    private static void promise13() {
        int[] noThings = {-1, 4, 12, LEAST, MOST};
        for (int t : noThings) {
            refuses(BAD, RefusalTests::lyingOn, x -> x.move(t), "P13 BAD: there is no THING " + t);
        }
        refuses(BAD, BeachedShip::new, x -> x.move(0), "P13 BAD: there is no THING at all");
        refuses(NO, RefusalTests::lyingOn, x -> x.move(2), "P13 NO: one that lies on it is IN");
        refuses(NO, RefusalTests::lyingOn, x -> x.move(0), "P13 NO: one of two that lie on it is IN");
        for (int t = 1; t < 4; t++) {
            int thing = t;
            refuses(NO, RefusalTests::allOut, x -> x.move(thing), "P13 NO: that on which it lies is OUT, " + t);
        }
        refuses(NO, RefusalTests::midst, x -> x.move(0), "P13 NO: THE BOAT was used in this HOUR, to go OUT");
        refuses(NO, RefusalTests::midst, x -> x.move(1), "P13 NO: THE BOAT was used in this HOUR, to come IN");
        refuses(NO, RefusalTests::midst, x -> x.move(2), "P13 NO: THE BOAT was used in this HOUR, by that one");
        refuses(NO, RefusalTests::lost, x -> x.move(0), "P13 NO: LOST");
        refuses(BAD, RefusalTests::lost, x -> x.move(1), "P13 of several the first: BAD ahead of LOST");
        refuses(BAD, RefusalTests::midst, x -> x.move(3), "P13 of several the first: BAD ahead of THE BOAT");
    }

    private static BeachedShip atHeel(int heel) {
        BeachedShip x = Ships.strong();
        Ships.heelTo(x, heel);
        return x;
    }

    /** HEEL 1 with FORCE 40 of STRENGTH 79: one more is too much by one. */
    private static BeachedShip justHolding() {
        BeachedShip x = new BeachedShip();
        x.tackle(0, 1, 79);
        x.heel(1);
        x.hour(0);
        return x;
    }

    private static BeachedShip justHoldingInRain() {
        BeachedShip x = new BeachedShip();
        x.tackle(0, 1, 53);
        x.rain(0, true);
        return x;
    }

    private static void promise14() {
        int[] noSteps = {0, 2, -2, 3, LEAST, MOST};
        for (int by : noSteps) {
            refuses(BAD_BEYOND_HEEL, () -> atHeel(3), x -> x.heel(by), "P14 BAD -100: by " + by);
            refuses(BAD_BEYOND_HEEL, RefusalTests::midst, x -> x.heel(by), "P14 BAD ahead of that it went, by " + by);
            refuses(BAD_BEYOND_HEEL, RefusalTests::lost, x -> x.heel(by), "P14 BAD ahead of LOST, by " + by);
        }
        refuses(NO_BEYOND_HEEL, () -> atHeel(9), x -> x.heel(1), "P14 NO -102: beyond 9");
        refuses(NO_BEYOND_HEEL, () -> atHeel(-9), x -> x.heel(-1), "P14 NO -102: beyond -9");
        refuses(NO_BEYOND_HEEL, RefusalTests::justHolding, x -> x.heel(1), "P14 NO -102: 80 on a rope of 79");
        refuses(NO_BEYOND_HEEL, RefusalTests::justHoldingInRain, x -> x.heel(1), "P14 NO -102: 40 of 39 in RAIN");
        refuses(NO_BEYOND_HEEL, BeachedShip::new, x -> x.heel(1), "P14 NO -102: no TACKLE, 1");
        refuses(NO_BEYOND_HEEL, BeachedShip::new, x -> x.heel(-1), "P14 NO -102: no TACKLE, -1");
        refuses(NO_BEYOND_HEEL, RefusalTests::midst, x -> x.heel(1), "P14 NO -102: it went in this HOUR");
        refuses(NO_BEYOND_HEEL, RefusalTests::midst, x -> x.heel(-1), "P14 NO -102: it went in this HOUR, back");
        refuses(NO_BEYOND_HEEL, RefusalTests::lost, x -> x.heel(1), "P14 NO -102: LOST");
        refuses(NO_BEYOND_HEEL, RefusalTests::lost, x -> x.heel(-1), "P14 NO -102: LOST, -1");
    }

    private static void promise15() {
        int[] noSeams = {8, 15, 16, 1 << 12, 1 << 30, -1, LEAST, MOST};
        for (int o : noSeams) {
            refuses(BAD, RefusalTests::midst, x -> x.hour(o), "P15 BAD: a SEAM that is none, ORDERS " + o);
        }
        refuses(BAD, BeachedShip::new, x -> x.hour(1), "P15 BAD: there is no SEAM at all");
        refuses(BAD, RefusalTests::full, x -> x.hour(4096), "P15 BAD: twelve are 0 to 11");
        refuses(NO, RefusalTests::lost, x -> x.hour(0), "P15 NO: LOST");
        refuses(NO, RefusalTests::lost, x -> x.hour(3), "P15 NO: LOST, with ORDERS");
        refuses(NO, RefusalTests::behindHour95, x -> x.hour(0), "P15 NO: behind HOUR 95");
        refuses(NO, RefusalTests::behindHour95, x -> x.hour(1), "P15 NO: behind HOUR 95, with ORDERS");
        refuses(BAD, RefusalTests::lost, x -> x.hour(4), "P15 of several the first: BAD ahead of LOST");
        refuses(BAD, RefusalTests::behindHour95, x -> x.hour(2), "P15 of several the first: BAD ahead of HOUR 95");
    }

    /** HEEL 1, FORCE 40: TACKLE 0 of 40, TACKLE 1 of 19 taken off. */
    private static BeachedShip oneRope() {
        BeachedShip x = new BeachedShip();
        x.tackle(0, 1, 40);
        x.tackle(1, 1, 19);
        x.rig(1, false);
        x.heel(1);
        return x;
    }

    private static BeachedShip twoMasts() {
        BeachedShip x = new BeachedShip();
        x.tackle(0, 1, 400);
        x.tackle(1, 1, 400);
        x.heel(1);
        x.rule(6, 39);
        return x;
    }

    private static void promise16() {
        int[] noTackles = {-1, 3, 6, LEAST, MOST};
        for (int t : noTackles) {
            refuses(BAD, RefusalTests::midst, x -> x.rig(t, true), "P16 BAD: there is no TACKLE " + t);
            refuses(BAD, RefusalTests::midst, x -> x.rig(t, false), "P16 BAD: there is no TACKLE to take off " + t);
        }
        refuses(BAD, BeachedShip::new, x -> x.rig(0, true), "P16 BAD: there is no TACKLE at all");
        refuses(NO, RefusalTests::oneRope, x -> x.rig(0, false), "P16 NO: HEEL would not HOLD with none");
        refuses(NO, RefusalTests::oneRope, x -> x.rig(1, true), "P16 NO: HEEL would not HOLD, 20 on a rope of 19");
        refuses(NO, RefusalTests::twoMasts, x -> x.rig(0, false), "P16 NO: HEEL would not HOLD, 40 on a MAST of 39");
        refuses(BAD, RefusalTests::oneRope, x -> x.rig(2, false), "P16 of several the first: BAD ahead of NO");
    }

    private static BeachedShip atHour(int hour) {
        BeachedShip x = new BeachedShip();
        x.tide(94, 0);
        x.tide(95, 0);
        x.seam(5, 0, 1, 1, 0, 3);
        Ships.hours(x, hour);
        return x;
    }

    private static void promise17() {
        int[] noSizes = {0, -1, 7, LEAST, MOST};
        for (int n : noSizes) {
            refuses(BAD, RefusalTests::midst, x -> x.plan(n, 0), "P17 BAD: n is 1 to 6, not " + n);
        }
        int[] noWhat = {-1, 6, 3 + 11, LEAST, MOST};
        for (int w : noWhat) {
            refuses(BAD, RefusalTests::midst, x -> x.plan(2, w), "P17 BAD: what " + w + ", with SEAMS 0 to 2");
        }
        refuses(BAD, BeachedShip::new, x -> x.plan(1, 3), "P17 BAD: there is no SEAM at all");
        refuses(BAD, RefusalTests::full, x -> x.plan(1, 15), "P17 BAD: twelve are 3 to 14");
        for (int n = 1; n <= 6; n++) {
            int size = n;
            refuses(NO, () -> atHour(97 - size), x -> x.plan(size, 0), "P17 NO: beyond HOUR 95 by one, n " + n);
        }
        refuses(NO, RefusalTests::lost, x -> x.plan(1, 0), "P17 NO: LOST");
        refuses(NO, RefusalTests::lost, x -> x.plan(1, 4), "P17 NO: LOST, the beginning of a SEAM");
        refuses(BAD, RefusalTests::lost, x -> x.plan(1, 5), "P17 of several the first: BAD ahead of LOST");
        refuses(BAD, () -> atHour(96), x -> x.plan(7, 0), "P17 of several the first: n ahead of HOUR 95");
        refuses(BAD, () -> atHour(96), x -> x.plan(1, 4), "P17 of several the first: what ahead of HOUR 95");
    }

    private static void promise18() {
        int[] noSizes = {0, -1, 7, LEAST, MOST};
        for (int n : noSizes) {
            refuses(BAD, RefusalTests::midst, x -> x.orders(n, 0), "P18 BAD: n is 1 to 6, not " + n);
        }
        for (int n = 1; n <= 6; n++) {
            int size = n;
            int[] none = {-1, n, LEAST, MOST};
            for (int i : none) {
                refuses(BAD, RefusalTests::midst, x -> x.orders(size, i), "P18 BAD: i is 0 to n - 1, not " + i);
            }
            refuses(NO, () -> atHour(97 - size), x -> x.orders(size, 0), "P18 NO: beyond HOUR 95 by one, n " + n);
        }
        refuses(NO, RefusalTests::lost, x -> x.orders(1, 0), "P18 NO: LOST");
        refuses(BAD, RefusalTests::lost, x -> x.orders(1, 1), "P18 of several the first: BAD ahead of LOST");
        refuses(BAD, () -> atHour(96), x -> x.orders(6, 6), "P18 of several the first: BAD ahead of HOUR 95");
    }

    private static BeachedShip outAreNine() {
        BeachedShip x = new BeachedShip();
        for (int t = 0; t < 9; t++) {
            x.thing(1 + t, -1);
        }
        for (int t = 0; t < 9; t++) {
            x.move(t);
            x.hour(0);
        }
        return x;
    }

    private static void promise19() {
        int[] noWhat = {-1, 3, LEAST, MOST};
        for (int w : noWhat) {
            refuses(BAD, RefusalTests::midst, x -> x.toFloat(w), "P19 BAD: what " + w);
            refuses(BAD, RefusalTests::lost, x -> x.toFloat(w), "P19 of several the first: LOST, what " + w);
            refuses(BAD, RefusalTests::outAreNine, x -> x.toFloat(w), "P19 of several the first: nine OUT, what " + w);
        }
        for (int w = 0; w < 3; w++) {
            int what = w;
            refuses(NO, RefusalTests::outAreNine, x -> x.toFloat(what), "P19 NO: more than 8 are OUT, what " + w);
            refuses(NO, RefusalTests::lost, x -> x.toFloat(what), "P19 NO: LOST, what " + w);
            refuses(-4, RefusalTests::behindHour95, x -> x.toFloat(what), "P19 NONE: HOUR 95 is not enough, " + w);
        }
    }

    private static void promise20() {
        int[] noPlanks = {-1, 30, LEAST, MOST};
        for (int p : noPlanks) {
            refuses(BAD_BEYOND_HEEL, RefusalTests::midst, x -> x.tap(p, 1), "P20 BAD -100: there is no PLANK " + p);
        }
        int[] noTaps = {-2, 2, LEAST, MOST};
        for (int v : noTaps) {
            refuses(BAD_BEYOND_HEEL, RefusalTests::midst, x -> x.tap(0, v), "P20 BAD -100: TAPPED is not " + v);
        }
    }

    private static void promise21() {
        int[] noSizes = {0, -1, 31, LEAST, MOST};
        for (int n : noSizes) {
            for (int w = 0; w < 4; w++) {
                int what = w;
                refuses(BAD, RefusalTests::midst, x -> x.worm(n, what), "P21 BAD: n is 1 to 30, not " + n);
            }
        }
        int[] noWhat = {-1, 4, LEAST, MOST};
        for (int w : noWhat) {
            refuses(BAD, RefusalTests::midst, x -> x.worm(5, w), "P21 BAD: what " + w);
        }
    }

    private static void promise22() {
        int[] noWhat = {-1, 6, LEAST, MOST};
        for (int w : noWhat) {
            refuses(BAD, RefusalTests::midst, x -> x.book(w), "P22 BAD: what " + w);
        }
    }

    private static BeachedShip keptThrice() {
        BeachedShip x = midst();
        x.hour(0);
        x.keep();
        x.hour(0);
        x.keep();
        x.hour(0);
        return x;
    }

    private static BeachedShip keptNoMore() {
        BeachedShip x = midst();
        x.back();
        x.hour(0);
        return x;
    }

    private static void promises23And24() {
        refuses(FULL, RefusalTests::keptThrice, BeachedShip::keep, "P23 FULL: 3 at most");
        refuses(NO, BeachedShip::new, BeachedShip::back, "P24 NO: nothing was KEPT");
        refuses(NO, RefusalTests::keptNoMore, BeachedShip::back, "P24 NO: nothing is left");
    }

    private static void promise25() {
        int[] noWhat = {-1, 9, LEAST, MOST};
        for (int w : noWhat) {
            refuses(BAD, RefusalTests::midst, x -> x.count(w), "P25 BAD: what " + w);
        }
    }

    /** Numbers that would seem told, if a sum or a shift of them wrapped around. */
    private static void bigNumbersDoNotWrapAround() {
        refuses(BAD, RefusalTests::midst, x -> x.tides(MOST, 8, 0L), "P3 BAD: HOUR and n wrap around");
        refuses(BAD, RefusalTests::midst, x -> x.tides(1, MOST, 0L), "P3 BAD: n and HOUR wrap around");
        refuses(BAD, RefusalTests::midst, x -> x.plan(MOST, 0), "P17 BAD: n and HOUR wrap around");
        refuses(BAD, RefusalTests::midst, x -> x.plan(1, LEAST + 2), "P17 BAD: what less 3 wraps around");
        for (int i = 0; i < 3; i++) {
            int beyond = 32 + i;
            refuses(BAD, RefusalTests::midst, x -> x.move(beyond), "P13 BAD: a bit of 32 and more, " + beyond);
            refuses(BAD, RefusalTests::midst, x -> x.rig(beyond, false), "P16 BAD: a bit of 32 and more, " + beyond);
            refuses(BAD, RefusalTests::midst, x -> x.thing(1, beyond), "P6 BAD: a bit of 32 and more, " + beyond);
            refuses(BAD, RefusalTests::midst, x -> x.tackleTold(beyond, 3), "P10 BAD: a bit of 32 and more, " + beyond);
            refuses(BAD, RefusalTests::midst, x -> x.plan(6, 3 + beyond), "P17 BAD: a bit of 32 and more, " + beyond);
        }
    }
}
