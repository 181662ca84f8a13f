/** Promises 1 to 8: a new object, the beach, the rules, and what is brought. */
final class FittingTests {
    private static final int LEAST = Integer.MIN_VALUE;
    private static final int MOST = Integer.MAX_VALUE;

    private FittingTests() {
    }

    static void all() {
        promise1NewObject();
        promise2Tide();
        promise2BehindHour95();
        promise3Tides();
        promise3TidesWrong();
        promise4Rain();
        promise4BehindHour95();
        promise5Rule();
        promise5RulesWork();
        promise6Thing();
        promise7Tackle();
        promise8Seam();
    }

    private static void promise1NewObject() {
        BeachedShip x = new BeachedShip();
        for (int what = 0; what <= 8; what++) {
            Due.is(0, x.count(what), "P1 count " + what);
        }
        int[] ship = {400, 20, 0, 0, 0, 1, 1, 0};
        for (int what = 0; what < 8; what++) {
            Due.is(ship[what], x.ship(what), "P1 ship " + what);
        }
        int[] book = {0, 0, 0, 0, 0, 100};
        for (int what = 0; what < 6; what++) {
            Due.is(book[what], x.book(what), "P1 book " + what);
        }
        for (int h = 0; h < 96; h++) {
            Due.is(30, x.tide(h, 7), "P1 TIDE of " + h);
            Due.is(0, x.rain(h, false), "P1 RAIN of " + h);
        }
        for (int p = 0; p < 30; p++) {
            Due.is(-1, x.tap(p, -1), "P1 GAP " + p);
        }
        Due.is(-2, x.back(), "P1 nothing KEPT");
        Due.is(-1, BeachedShip.BAD, "BAD");
        Due.is(-2, BeachedShip.NO, "NO");
        Due.is(-3, BeachedShip.FULL, "FULL");
        Due.is(-4, BeachedShip.NONE, "NONE");
    }

    private static void promise2Tide() {
        BeachedShip x = new BeachedShip();
        Due.is(30, x.tide(0, 0), "P2 first");
        Due.is(0, x.tide(0, 60), "P2 what it was");
        Due.is(60, x.tide(0, 60), "P2 most");
        Due.is(30, x.tide(95, 59), "P2 last HOUR");
        int[] badHours = {-1, 96, LEAST, MOST};
        for (int h : badHours) {
            Due.is(-1, x.tide(h, 30), "P2 HOUR " + h);
        }
        int[] badTides = {-1, 61, LEAST, MOST};
        for (int v : badTides) {
            Due.is(-1, x.tide(0, v), "P2 TIDE " + v);
            Due.is(-1, x.tide(95, v), "P2 TIDE " + v);
        }
        Due.is(60, x.tide(0, 1), "P2 BAD changes nothing");
        Due.is(59, x.tide(95, 1), "P2 BAD changes nothing");
        Due.is(30, x.tide(1, 30), "P2 others stay");
        Due.is(30, x.tide(94, 30), "P2 others stay");
    }

    private static void promise2BehindHour95() {
        BeachedShip x = new BeachedShip();
        x.seam(5, 0, 1, 1, 0, 1);
        Ships.hours(x, 96);
        Due.is(96, x.count(7), "P2 HOUR 96");
        Due.is(1, x.ship(5), "P2 TIDE of HOUR 95 behind it");
        Due.is(0, x.seamTold(0, 1), "P2 not BARE behind HOUR 95");
        Due.is(30, x.tide(95, 19), "P2 TIDE of HOUR 95");
        Due.is(0, x.ship(5), "P2 TIDE of HOUR 95 behind it, low");
        Due.is(1, x.seamTold(0, 1), "P2 BARE behind HOUR 95");
    }

    private static void promise3Tides() {
        BeachedShip x = new BeachedShip();
        Due.is(8, x.tides(0, 8, 0x3C07060504030201L), "P3 eight");
        int[] want = {1, 2, 3, 4, 5, 6, 7, 60, 30};
        for (int h = 0; h < want.length; h++) {
            Due.is(want[h], x.tide(h, 30), "P3 TIDE of HOUR " + h);
        }
        for (int n = 1; n <= 8; n++) {
            long v = 0x3C3C3C3C3C3C3C3CL >>> (64 - 8 * n);
            Due.is(n, x.tides(96 - n, n, v), "P3 the last " + n);
            Due.is(30, x.tide(95 - n, 30), "P3 ahead of the last " + n);
            Due.is(60, x.tide(96 - n, 60), "P3 the first of the last " + n);
            Due.is(60, x.tide(95, 60), "P3 the last of the last " + n);
            Due.is(n, x.tides(96 - n, n, 0L), "P3 nought for " + n);
            Due.is(0, x.tide(95, 30), "P3 nought in HOUR 95");
            for (int h = 96 - n; h < 96; h++) {
                x.tide(h, 30);
            }
        }
        Due.is(2, x.tides(10, 2, 0x0B0AL), "P3 two");
        Due.is(30, x.tide(9, 30), "P3 ahead of two");
        Due.is(10, x.tide(10, 30), "P3 lowest bits first");
        Due.is(11, x.tide(11, 30), "P3 next bits next");
        Due.is(30, x.tide(12, 30), "P3 behind two");
    }

    private static void promise3TidesWrong() {
        BeachedShip x = new BeachedShip();
        int[] badHours = {-1, 96, LEAST, MOST};
        for (int h : badHours) {
            Due.is(-1, x.tides(h, 1, 0L), "P3 HOUR " + h);
        }
        int[] badSizes = {0, -1, 9, LEAST, MOST};
        for (int n : badSizes) {
            Due.is(-1, x.tides(0, n, 0L), "P3 n " + n);
        }
        for (int n = 2; n <= 8; n++) {
            Due.is(-1, x.tides(97 - n, n, 0L), "P3 beyond HOUR 95 with " + n);
        }
        for (int n = 1; n <= 8; n++) {
            for (int i = 0; i < 8; i++) {
                Due.is(-1, x.tides(0, n, 61L << (8 * i)), "P3 61 at " + i + " of " + n);
                Due.is(-1, x.tides(0, n, 128L << (8 * i)), "P3 128 at " + i + " of " + n);
                if (i >= n) {
                    Due.is(-1, x.tides(0, n, 1L << (8 * i)), "P3 other bit at " + i + " of " + n);
                }
            }
        }
        Due.is(-1, x.tides(0, 8, -1L), "P3 all bits");
        Due.is(-1, x.tides(0, 1, Long.MIN_VALUE), "P3 the highest bit");
        for (int h = 0; h < 96; h++) {
            Due.is(30, x.tide(h, 30), "P3 BAD changes nothing in " + h);
        }
    }

    private static void promise4Rain() {
        BeachedShip x = new BeachedShip();
        Due.is(0, x.rain(0, true), "P4 first");
        Due.is(1, x.rain(0, true), "P4 again");
        Due.is(1, x.rain(0, false), "P4 none again");
        Due.is(0, x.rain(0, false), "P4 none");
        Due.is(0, x.rain(95, true), "P4 last");
        Due.is(0, x.rain(94, true), "P4 ahead of the last");
        int[] badHours = {-1, 96, LEAST, MOST};
        for (int h : badHours) {
            Due.is(-1, x.rain(h, true), "P4 HOUR " + h);
            Due.is(-1, x.rain(h, false), "P4 HOUR " + h);
        }
        Due.is(1, x.rain(95, false), "P4 BAD changes nothing");
        Due.is(0, x.rain(0, false), "P4 BAD changes nothing");
        Due.is(30, x.tide(0, 30), "P4 TIDE stays");
    }

    private static void promise4BehindHour95() {
        BeachedShip x = new BeachedShip();
        x.tackle(0, 1, 100);
        Ships.hours(x, 96);
        Due.is(100, x.tackleTold(0, 2), "P4 dry behind HOUR 95");
        x.rain(95, true);
        Due.is(75, x.tackleTold(0, 2), "P4 RAIN of HOUR 95 behind it");
    }

    private static void promise5Rule() {
        int[] first = {10, 400, 0, 10, 100, 200, 200, 200};
        int[] least = {0, 100, 0, 1, 0, 0, 0, 0};
        int[] most = {40, 1000, 2000, 20, 1000, 1000, 1000, 1000};
        BeachedShip x = new BeachedShip();
        for (int what = 0; what < 8; what++) {
            Due.is(-1, x.rule(what, least[what] - 1), "P5 below " + what);
            Due.is(-1, x.rule(what, most[what] + 1), "P5 above " + what);
            Due.is(-1, x.rule(what, LEAST), "P5 far below " + what);
            Due.is(-1, x.rule(what, MOST), "P5 far above " + what);
            Due.is(first[what], x.rule(what, least[what]), "P5 first of " + what);
            Due.is(least[what], x.rule(what, most[what]), "P5 least of " + what);
        }
        for (int what = 0; what < 8; what++) {
            Due.is(most[what], x.rule(what, first[what]), "P5 most of " + what);
        }
        int[] bad = {-1, 8, LEAST, MOST};
        for (int what : bad) {
            Due.is(-1, x.rule(what, 10), "P5 no such rule " + what);
        }
        for (int what = 0; what < 8; what++) {
            Due.is(first[what], x.rule(what, first[what]), "P5 BAD changes nothing of " + what);
        }
    }

    private static void promise5RulesWork() {
        BeachedShip x = new BeachedShip();
        x.rule(1, 340);
        Due.is(340, x.ship(0), "P5 HULL is in TOTAL");
        Due.is(17, x.ship(1), "P5 HULL is in DRAUGHT");
        Due.is(1, x.ship(5), "P5 17 and 10 of 30");
        x.rule(0, 13);
        Due.is(1, x.ship(5), "P5 17 and 13 of 30");
        x.rule(0, 14);
        Due.is(0, x.ship(5), "P5 17 and 14 of 30");
        x.rule(0, 0);
        x.rule(2, 340);
        Due.is(1, x.ship(5), "P5 BALLAST 340");
        x.rule(2, 341);
        Due.is(0, x.ship(5), "P5 BALLAST 341");
        x.rule(4, 77);
        Due.is(77, x.book(5), "P5 PITCH that is left");
        x.tide(0, 0);
        x.tide(1, 0);
        x.seam(5, 0, 1, 2, 7, 1);
        x.hour(1);
        x.hour(1);
        Due.is(70, x.rule(4, 50), "P5 PITCH left behind work");
        Due.is(7, x.book(0), "P5 PITCH taken stays");
    }

    private static void promise6Thing() {
        BeachedShip x = new BeachedShip();
        int[] badWeights = {0, -1, 101, LEAST, MOST};
        for (int w : badWeights) {
            Due.is(-1, x.thing(w, -1), "P6 weight " + w);
        }
        int[] badUnder = {-2, 0, 1, LEAST, MOST};
        for (int u : badUnder) {
            Due.is(-1, x.thing(1, u), "P6 under " + u);
        }
        Due.is(0, x.count(0), "P6 BAD changes nothing");
        Due.is(0, x.thing(1, -1), "P6 least weight");
        Due.is(1, x.thing(100, 0), "P6 most weight");
        Due.is(2, x.count(1), "P6 IN at first");
        Due.is(501, x.ship(0), "P6 in TOTAL");
        Due.is(-1, x.thing(1, 2), "P6 under itself");
        Due.is(401, x.move(1), "P6 goes OUT");
        Due.is(-2, x.thing(5, 1), "P6 under one that is OUT");
        Due.is(-1, x.thing(0, 1), "P6 BAD ahead of NO");
        Due.is(2, x.count(0), "P6 NO changes nothing");
        for (int i = 2; i < 12; i++) {
            Due.is(i, x.thing(2, 0), "P6 number " + i);
        }
        Due.is(-3, x.thing(2, -1), "P6 FULL");
        Due.is(-2, x.thing(2, 1), "P6 NO ahead of FULL");
        Due.is(-1, x.thing(2, 12), "P6 BAD ahead of FULL");
        Due.is(-1, x.thing(101, 1), "P6 BAD ahead of all");
        Due.is(12, x.count(0), "P6 twelve");
        Due.is(421, x.ship(0), "P6 TOTAL of twelve");
        Due.is(0, Ships.lost().thing(5, -1), "P6 LOST does not matter");
    }

    private static void promise7Tackle() {
        BeachedShip x = new BeachedShip();
        int[][] bad = {{-1, 1, 1}, {3, 1, 1}, {LEAST, 1, 1}, {MOST, 1, 1}, {0, 0, 1}, {0, 7, 1}, {0, LEAST, 1},
            {0, MOST, 1}, {0, 1, 0}, {0, 1, 401}, {0, 1, LEAST}, {0, 1, MOST}};
        for (int[] b : bad) {
            Due.is(-1, x.tackle(b[0], b[1], b[2]), "P7 " + b[0] + " " + b[1] + " " + b[2]);
        }
        Due.is(0, x.count(2), "P7 BAD changes nothing");
        int[][] good = {{0, 1, 1}, {2, 6, 400}, {1, 1, 400}, {0, 6, 1}, {2, 3, 200}, {1, 2, 7}};
        for (int i = 0; i < good.length; i++) {
            Due.is(i, x.tackle(good[i][0], good[i][1], good[i][2]), "P7 number " + i);
            Due.is(1, x.tackleTold(i, 3), "P7 WHOLE at first");
            Due.is(good[i][2], x.tackleTold(i, 2), "P7 STRENGTH");
        }
        Due.is(-3, x.tackle(0, 1, 1), "P7 FULL");
        Due.is(-1, x.tackle(0, 1, 401), "P7 BAD ahead of FULL");
        Due.is(6, x.count(2), "P7 six");
        Due.is(0, Ships.lost().tackle(0, 1, 1), "P7 LOST does not matter");
        BeachedShip z = new BeachedShip();
        z.tackle(0, 6, 100);
        z.heel(1);
        Due.is(1, z.tackle(0, 1, 1), "P7 a weak one comes at any HEEL");
        Due.is(0, z.ship(6), "P7 so that HEEL HOLDS no more");
    }

    private static void promise8Seam() {
        BeachedShip x = new BeachedShip();
        int[] least = {1, 0, 1, 1, 0, 1};
        int[] most = {10, 1, 6, 4, 50, 100};
        for (int i = 0; i < 6; i++) {
            int[] wrong = {least[i] - 1, most[i] + 1, LEAST, MOST};
            for (int w : wrong) {
                int[] a = least.clone();
                a[i] = w;
                Due.is(-1, x.seam(a[0], a[1], a[2], a[3], a[4], a[5]), "P8 number " + i + " is " + w);
            }
        }
        Due.is(0, x.count(4), "P8 BAD changes nothing");
        Due.is(0, x.seam(1, 0, 1, 1, 0, 1), "P8 least of all");
        Due.is(1, x.seam(10, 1, 6, 4, 50, 100), "P8 most of all");
        for (int i = 0; i < 2; i++) {
            Due.is(0, x.seamTold(i, 0), "P8 OLD at first");
            Due.is(0, x.seamTold(i, 2), "P8 no work done");
        }
        for (int i = 2; i < 12; i++) {
            Due.is(i, x.seam(5, 0, 2, 2, 5, 5), "P8 number " + i);
        }
        Due.is(-3, x.seam(5, 0, 2, 2, 5, 5), "P8 FULL");
        Due.is(-1, x.seam(11, 0, 2, 2, 5, 5), "P8 BAD ahead of FULL");
        Due.is(12, x.count(4), "P8 twelve");
        Due.is(2, Ships.lost().seam(5, 0, 2, 2, 5, 5), "P8 LOST does not matter");
    }
}
