/** The edges that the first part of the Terms names: a test of its own for each sentence. */
final class EdgesOfHer {
    private static final int LEAST = Integer.MIN_VALUE;
    private static final int MOST = Integer.MAX_VALUE;

    private EdgesOfHer() {
    }

    static void all() {
        hours0To95HaveATide();
        hours0To95HaveRainOrNot();
        tideIs0To60();
        tideIs30AtFirst();
        tidesOf1To8Hours();
        tidesOfTheLastHours();
        ruleIs(0, 0, 40, 10, "BEACH is 0 to 40 (10 at first)");
        ruleIs(1, 100, 1000, 400, "HULL 100 to 1000 (400 at first)");
        ruleIs(2, 0, 2000, 0, "BALLAST 0 to 2000 (0 at first)");
        ruleIs(3, 1, 20, 10, "MEN 1 to 20 (10 at first)");
        ruleIs(4, 0, 1000, 100, "PITCH 0 to 1000 (100 at first)");
        for (int m = 0; m < 3; m++) {
            ruleIs(5 + m, 0, 1000, 200, "MASTS bear 0 to 1000 (200 at first), " + m);
        }
        behindHour95TideIsThatOfHour95();
        behindHour95RainIsThatOfHour95();
        allThings();
        allWeights();
        allTackles();
        allHeels();
    }

    private static void hours0To95HaveATide() {
        String s = "HOURS 0 to 95 each have a TIDE: ";
        BeachedShip x = new BeachedShip();
        for (int h = 0; h < 96; h++) {
            x.tide(h, h % 61);
        }
        for (int h = 0; h < 96; h++) {
            Due.is(h % 61, x.tide(h, 0), s + h);
        }
        Due.is(-1, x.tide(-1, 0), s + "not -1");
        Due.is(-1, x.tide(96, 0), s + "not 96");
    }

    private static void hours0To95HaveRainOrNot() {
        String s = "HOURS 0 to 95 each have RAIN or not: ";
        BeachedShip x = new BeachedShip();
        for (int h = 0; h < 96; h++) {
            Due.is(0, x.rain(h, h % 3 == 0), s + "not at first " + h);
        }
        for (int h = 0; h < 96; h++) {
            Due.is(h % 3 == 0 ? 1 : 0, x.rain(h, false), s + h);
        }
        Due.is(-1, x.rain(-1, true), s + "not -1");
        Due.is(-1, x.rain(96, true), s + "not 96");
    }

    private static void tideIs0To60() {
        String s = "TIDE is 0 to 60: ";
        BeachedShip x = new BeachedShip();
        Due.is(30, x.tide(5, 0), s + "0");
        Due.is(0, x.tide(5, 60), s + "60");
        int[] none = {-1, 61, LEAST, MOST};
        for (int v : none) {
            Due.is(-1, x.tide(5, v), s + "not " + v);
        }
        Due.is(60, x.tide(5, 30), s + "60 stayed");
    }

    private static void tideIs30AtFirst() {
        BeachedShip x = new BeachedShip();
        for (int h = 0; h < 96; h++) {
            Due.is(30, x.tide(h, 0), "30 at first: HOUR " + h);
        }
    }

    private static void tidesOf1To8Hours() {
        String s = "TIDES of n HOURS (1 to 8) from one on, the first one lowest: ";
        for (int n = 1; n <= 8; n++) {
            BeachedShip x = new BeachedShip();
            long v = 0x3C0706050403023CL << (64 - 8 * n) >>> (64 - 8 * n);
            Due.is(n, x.tides(40, n, v), s + n);
            Due.is(30, x.tide(39, 30), s + "ahead of " + n);
            for (int i = 0; i < n; i++) {
                Due.is(i == 0 || i == 7 ? 60 : i + 1, x.tide(40 + i, 30), s + i + " of " + n);
            }
            Due.is(30, x.tide(40 + n, 30), s + "behind " + n);
        }
        BeachedShip x = new BeachedShip();
        Due.is(-1, x.tides(40, 0, 0L), s + "not 0");
        Due.is(-1, x.tides(40, 9, 0L), s + "not 9");
    }

    private static void tidesOfTheLastHours() {
        String s = "TIDES, HOURS 0 to 95: ";
        for (int n = 1; n <= 8; n++) {
            BeachedShip x = new BeachedShip();
            Due.is(n, x.tides(0, n, 0L), s + "the first " + n);
            Due.is(n, x.tides(96 - n, n, 0L), s + "the last " + n);
            Due.is(-1, x.tides(97 - n, n, 0L), s + "one beyond " + n);
            Due.is(-1, x.tides(-1, n, 0L), s + "one ahead of " + n);
            Due.is(0, x.tide(95, 0), s + "HOUR 95 of the last " + n);
        }
    }

    private static void ruleIs(int what, int least, int most, int first, String s) {
        BeachedShip x = new BeachedShip();
        int[] none = {least - 1, most + 1, LEAST, MOST};
        for (int v : none) {
            Due.is(-1, x.rule(what, v), s + ": not " + v);
        }
        Due.is(first, x.rule(what, least), s + ": at first");
        Due.is(least, x.rule(what, most), s + ": the least");
        for (int v : none) {
            Due.is(-1, x.rule(what, v), s + ": nor then " + v);
        }
        Due.is(most, x.rule(what, first), s + ": the most");
    }

    private static void behindHour95TideIsThatOfHour95() {
        String s = "Behind HOUR 95 TIDE is that of HOUR 95: ";
        BeachedShip x = new BeachedShip();
        x.seam(5, 0, 1, 1, 0, 1);
        x.tide(0, 0);
        x.tide(94, 0);
        Ships.hours(x, 96);
        Due.is(96, x.count(7), s + "HOUR 96");
        Due.is(1, x.ship(5), s + "she floats by 30");
        Due.is(0, x.seamTold(0, 1), s + "not BARE by 30");
        x.tide(95, 20);
        Due.is(0, x.ship(5), s + "she does not by 20");
        Due.is(0, x.seamTold(0, 1), s + "not BARE by 20");
        x.tide(95, 19);
        Due.is(1, x.seamTold(0, 1), s + "BARE by 19");
        x.tide(0, 60);
        x.tide(94, 60);
        Due.is(0, x.ship(5), s + "others do not matter");
    }

    private static void behindHour95RainIsThatOfHour95() {
        String s = "Behind HOUR 95 RAIN is that of HOUR 95: ";
        BeachedShip x = new BeachedShip();
        x.tackle(0, 1, 40);
        x.rain(0, true);
        x.rain(94, true);
        Ships.hours(x, 96);
        Due.is(40, x.tackleTold(0, 2), s + "dry");
        x.rain(95, true);
        x.rain(94, false);
        Due.is(30, x.tackleTold(0, 2), s + "wet");
        Due.is(-102, x.heel(1), s + "40 of 30 would not HOLD");
        x.rain(95, false);
        Due.is(1, x.heel(1), s + "40 of 40 HOLDS");
        Due.is(1, x.ship(6), s + "it HOLDS dry");
        x.rain(95, true);
        Due.is(0, x.ship(6), s + "it does not HOLD wet");
    }

    private static void allThings() {
        thingsAre0To11();
        weightIs1To100();
        underOneThatIsThere();
        inAtFirst();
        outMayGoOneIfAllOnItAreOut();
        inMayComeOneIfThatBeneathIsIn();
        oneThingAnHourMoves();
    }

    private static void thingsAre0To11() {
        String s = "THINGS 0 to 11 as they come: ";
        BeachedShip x = new BeachedShip();
        for (int i = 0; i < 12; i++) {
            Due.is(i, x.thing(1, -1), s + i);
        }
        Due.is(-3, x.thing(1, -1), s + "FULL behind 11");
        Due.is(12, x.count(0), s + "twelve");
        Due.is(411, x.move(11), s + "11 is one");
        Due.is(-1, x.move(12), s + "12 is none");
    }

    private static void weightIs1To100() {
        String s = "a weight (1 to 100): ";
        BeachedShip x = new BeachedShip();
        int[] none = {0, 101, -1, LEAST, MOST};
        for (int w : none) {
            Due.is(-1, x.thing(w, -1), s + "not " + w);
        }
        Due.is(0, x.thing(1, -1), s + "1");
        Due.is(401, x.ship(0), s + "1 in TOTAL");
        Due.is(1, x.thing(100, -1), s + "100");
        Due.is(501, x.ship(0), s + "100 in TOTAL");
    }

    private static void underOneThatIsThere() {
        String s = "perhaps UNDER one that is there (this one lies on it): ";
        BeachedShip x = new BeachedShip();
        Due.is(-1, x.thing(1, 0), s + "not UNDER itself, the first");
        Due.is(0, x.thing(1, -1), s + "none is UNDER it");
        Due.is(-1, x.thing(1, 1), s + "not UNDER itself, the second");
        Due.is(-1, x.thing(1, -2), s + "-2 is none");
        Due.is(1, x.thing(1, 0), s + "the first");
        Due.is(2, x.thing(1, 1), s + "the last that is there");
        Due.is(-2, x.move(0), s + "the second lies on the first");
        Due.is(-2, x.move(1), s + "the third lies on the second");
        Due.is(402, x.move(2), s + "none lies on the third");
        BeachedShip y = new BeachedShip();
        y.thing(1, -1);
        y.move(0);
        Due.is(-2, y.thing(1, 0), s + "NO: that is OUT");
        y.hour(0);
        y.move(0);
        Due.is(1, y.thing(1, 0), s + "that is IN again");
    }

    private static void inAtFirst() {
        BeachedShip x = new BeachedShip();
        Due.is(0, x.count(1), "IN at first: none there");
        x.thing(7, -1);
        Due.is(1, x.count(1), "IN at first");
        Due.is(407, x.ship(0), "IN at first: in TOTAL");
        x.move(0);
        x.thing(9, -1);
        Due.is(1, x.count(1), "IN at first: beside one that is OUT");
        Due.is(409, x.ship(0), "IN at first: in TOTAL beside one that is OUT");
    }

    /** THING 0; 1 and 2 on it; 3 on 2. */
    private static BeachedShip lying() {
        BeachedShip x = new BeachedShip();
        x.thing(1, -1);
        x.thing(2, 0);
        x.thing(4, 0);
        x.thing(8, 2);
        return x;
    }

    private static void moves(BeachedShip x, int... things) {
        for (int t : things) {
            Due.holds(x.move(t) >= 0, "moves to begin with: " + t);
            x.hour(0);
        }
    }

    private static void outMayGoOneIfAllOnItAreOut() {
        String s = "OUT may go one that is IN, if all that lie on it are OUT: ";
        BeachedShip x = lying();
        Due.is(413, x.move(1), s + "nothing lies on it");
        x.hour(0);
        Due.is(-2, x.move(2), s + "the only one on it is IN");
        Due.is(-2, x.move(0), s + "of two on it one is IN");
        moves(x, 3);
        Due.is(401, x.move(2), s + "the only one on it is OUT");
        x.hour(0);
        Due.is(400, x.move(0), s + "both on it are OUT");
    }

    private static void inMayComeOneIfThatBeneathIsIn() {
        String s = "IN one that is OUT, if that on which it lies is IN: ";
        BeachedShip x = lying();
        moves(x, 1, 3, 2, 0);
        for (int t = 1; t < 4; t++) {
            Due.is(-2, x.move(t), s + "it is OUT, " + t);
        }
        Due.is(401, x.move(0), s + "it lies on none");
        x.hour(0);
        Due.is(-2, x.move(3), s + "that beneath is OUT, one farther down is IN");
        Due.is(405, x.move(2), s + "it is IN");
        x.hour(0);
        Due.is(413, x.move(3), s + "it is IN again");
        x.hour(0);
        Due.is(415, x.move(1), s + "another on the same one");
    }

    private static void oneThingAnHourMoves() {
        String s = "One THING an HOUR moves (THE BOAT): ";
        BeachedShip x = new BeachedShip();
        x.thing(1, -1);
        x.thing(2, -1);
        Due.is(402, x.move(0), s + "one");
        Due.is(-2, x.move(1), s + "not two");
        Due.is(-2, x.move(0), s + "nor the same one back");
        x.hour(0);
        Due.is(400, x.move(1), s + "one in the next HOUR");
        x.hour(0);
        x.hour(0);
        Due.is(401, x.move(0), s + "HOURS without one are not laid by");
        Due.is(-2, x.move(1), s + "HOURS without one are not laid by: not two");
        BeachedShip y = lying();
        Due.is(-2, y.move(0), s + "one that may not go");
        Due.is(-1, y.move(4), s + "one that is none");
        Due.is(407, y.move(3), s + "do not use THE BOAT");
    }

    private static void allWeights() {
        totalIsHullAndThingsThatAreIn();
        draughtIsCut();
        floatsIfHeelIs0();
        floatsIfNoSeamIsOpen();
        floatsIfTotalIsBallastAtLeast();
        floatsIfTideIsDraughtAndBeachAtLeast();
    }

    private static void totalIsHullAndThingsThatAreIn() {
        String s = "TOTAL is HULL and THINGS that are IN, together: ";
        BeachedShip x = new BeachedShip();
        x.rule(1, 100);
        Due.is(100, x.ship(0), s + "the least");
        for (int i = 0; i < 12; i++) {
            x.thing(100, -1);
        }
        Due.is(1300, x.ship(0), s + "twelve of 100");
        x.rule(1, 1000);
        Due.is(2200, x.ship(0), s + "the most");
        moves(x, 0, 1, 2, 3, 4, 5, 6, 7, 8, 9, 10);
        Due.is(1100, x.ship(0), s + "eleven OUT");
        moves(x, 11);
        Due.is(1000, x.ship(0), s + "all OUT");
        moves(x, 5);
        Due.is(1100, x.ship(0), s + "one IN again");
    }

    private static void draughtIsCut() {
        String s = "DRAUGHT is TOTAL by 20, cut: ";
        BeachedShip x = new BeachedShip();
        int[][] draughts = {{100, 5}, {119, 5}, {120, 6}, {139, 6}, {399, 19}, {400, 20}, {401, 20}, {999, 49}};
        for (int[] d : draughts) {
            x.rule(1, d[0]);
            Due.is(d[1], x.ship(1), s + d[0]);
        }
        x.rule(1, 1000);
        for (int i = 0; i < 12; i++) {
            x.thing(100, -1);
        }
        Due.is(110, x.ship(1), s + "2200");
    }

    private static void floatsIfHeelIs0() {
        String s = "SHE FLOATS in an HOUR, if HEEL is 0: ";
        BeachedShip x = Ships.strong();
        Ships.tideAll(x, 60);
        int[] by = {1, -1, -1, 1};
        int[] heel = {1, 0, -1, 0};
        for (int i = 0; i < by.length; i++) {
            Due.is(heel[i], x.heel(by[i]), s + "HEEL goes");
            Due.is(heel[i] == 0 ? 1 : 0, x.ship(5), s + "HEEL " + heel[i]);
            x.hour(0);
        }
    }

    private static void floatsIfNoSeamIsOpen() {
        String s = "SHE FLOATS, if no SEAM is OPEN: ";
        BeachedShip x = new BeachedShip();
        Ships.tideAll(x, 30);
        Due.is(1, x.ship(5), s + "no SEAM at all");
        for (int i = 0; i < 12; i++) {
            x.seam(8, 0, 1, 1, 0, 1);
        }
        Due.is(1, x.ship(5), s + "twelve OLD");
        x.hour(1 << 11);
        Due.is(0, x.ship(5), s + "the last is OPEN");
        x.hour(1 << 11);
        Due.is(1, x.ship(5), s + "the last is TIGHT");
        x.hour(1);
        Due.is(0, x.ship(5), s + "the first is OPEN");
    }

    private static void floatsIfTotalIsBallastAtLeast() {
        String s = "SHE FLOATS, if TOTAL is BALLAST at least: ";
        BeachedShip x = new BeachedShip();
        x.thing(5, -1);
        int[][] ballast = {{0, 1}, {404, 1}, {405, 1}, {406, 0}, {2000, 0}};
        for (int[] b : ballast) {
            x.rule(2, b[0]);
            Due.is(b[1], x.ship(5), s + b[0] + " of 405");
        }
        x.rule(2, 405);
        x.move(0);
        Due.is(0, x.ship(5), s + "405 of 400, when it is OUT");
    }

    private static void floatsIfTideIsDraughtAndBeachAtLeast() {
        String s = "SHE FLOATS, if TIDE is DRAUGHT and BEACH at least: ";
        BeachedShip x = new BeachedShip();
        int[][] tides = {{29, 0}, {30, 1}, {31, 1}, {60, 1}, {0, 0}};
        for (int[] t : tides) {
            x.tide(0, t[0]);
            Due.is(t[1], x.ship(5), s + t[0] + " of 20 and 10");
        }
        x.tide(0, 60);
        x.rule(0, 40);
        Due.is(1, x.ship(5), s + "60 of 20 and 40");
        x.rule(1, 419);
        Due.is(1, x.ship(5), s + "60 of 20, cut, and 40");
        x.rule(1, 420);
        Due.is(0, x.ship(5), s + "60 of 21 and 40");
        x.rule(0, 0);
        x.rule(1, 100);
        x.tide(0, 5);
        Due.is(1, x.ship(5), s + "5 of 5 and 0");
        x.tide(0, 4);
        Due.is(0, x.ship(5), s + "4 of 5 and 0");
    }

    private static void allTackles() {
        tacklesAre0To5();
        aMastIs0To2();
        partsAre1To6();
        strengthIs1To400();
        wholeAtFirst();
        eachTakesForceByNRoundedUp();
        itsRopeThatByPartsRoundedUp();
        aMastTakesTheSum();
        holdsIfNIsNot0OrForceIs0();
        eachRopeTakesStrengthAtMost();
        inRainStrengthTimes3By4Cut();
        eachMastTakesWhatItBearsAtMost();
    }

    private static void tacklesAre0To5() {
        String s = "TACKLES 0 to 5 as they come: ";
        BeachedShip x = new BeachedShip();
        Due.is(-1, x.tackleTold(0, 3), s + "none there");
        for (int i = 0; i < 6; i++) {
            Due.is(i, x.tackle(2, 1, 10 + i), s + i);
        }
        Due.is(-3, x.tackle(2, 1, 1), s + "FULL behind 5");
        Due.is(6, x.count(2), s + "six");
        Due.is(15, x.tackleTold(5, 2), s + "5 is one");
        Due.is(-1, x.tackleTold(6, 2), s + "6 is none");
    }

    private static void aMastIs0To2() {
        String s = "a MAST (0 to 2): ";
        BeachedShip x = new BeachedShip();
        int[] none = {-1, 3, LEAST, MOST};
        for (int m : none) {
            Due.is(-1, x.tackle(m, 1, 1), s + "not " + m);
        }
        for (int m = 0; m < 3; m++) {
            BeachedShip y = new BeachedShip();
            Due.is(0, y.tackle(m, 1, 400), s + m);
            for (int other = 0; other < 3; other++) {
                y.rule(5 + other, other == m ? 40 : 0);
            }
            Due.is(1, y.greatest(false), s + "that MAST bears it, " + m);
            y.rule(5 + m, 39);
            Due.is(0, y.greatest(false), s + "that MAST does not bear it, " + m);
        }
    }

    private static void partsAre1To6() {
        String s = "PARTS (1 to 6): ";
        BeachedShip x = new BeachedShip();
        int[] none = {0, 7, -1, LEAST, MOST};
        for (int p : none) {
            Due.is(-1, x.tackle(0, p, 1), s + "not " + p);
        }
        Due.is(0, x.tackle(0, 1, 1), s + "1");
        Due.is(1, x.tackle(0, 6, 1), s + "6");
    }

    private static void strengthIs1To400() {
        String s = "STRENGTH of its rope (1 to 400): ";
        BeachedShip x = new BeachedShip();
        int[] none = {0, 401, -1, LEAST, MOST};
        for (int v : none) {
            Due.is(-1, x.tackle(0, 1, v), s + "not " + v);
        }
        Due.is(0, x.tackle(0, 1, 1), s + "1");
        Due.is(1, x.tackleTold(0, 2), s + "1 is told");
        Due.is(1, x.tackle(0, 1, 400), s + "400");
        Due.is(400, x.tackleTold(1, 2), s + "400 is told");
    }

    private static void wholeAtFirst() {
        BeachedShip x = new BeachedShip();
        x.tackle(0, 1, 1);
        x.rig(0, false);
        x.tackle(0, 1, 1);
        Due.is(1, x.tackleTold(1, 3), "WHOLE at first");
        Due.is(1, x.count(3), "WHOLE at first: beside one that is off");
    }

    /** FORCE 10 at HEEL 1 of HULL 100. */
    private static BeachedShip light() {
        BeachedShip x = new BeachedShip();
        x.rule(1, 100);
        return x;
    }

    private static void eachTakesForceByNRoundedUp() {
        String s = "With n TACKLES that are WHOLE each takes FORCE by n, rounded up: ";
        int[] each = {10, 5, 4, 3, 2, 2};
        BeachedShip x = light();
        x.tackle(0, 1, 400);
        x.heel(1);
        for (int n = 1; n <= 6; n++) {
            for (int t = 0; t < n; t++) {
                Due.is(each[n - 1], x.tackleTold(t, 0), s + "10 by " + n);
            }
            x.tackle(n % 3, 1, 400);
        }
        x.rig(5, false);
        Due.is(2, x.tackleTold(0, 0), s + "one is off: 10 by 5");
        Due.is(0, x.tackleTold(5, 0), s + "it takes nothing itself");
        x.rule(1, 110);
        Due.is(3, x.tackleTold(0, 0), s + "11 by 5");
        x.hour(0);
        x.heel(-1);
        Due.is(0, x.tackleTold(0, 0), s + "0 by 5");
    }

    private static void itsRopeThatByPartsRoundedUp() {
        String s = "its rope that by PARTS, rounded up: ";
        int[] rope = {10, 5, 4, 3, 2, 2};
        for (int parts = 1; parts <= 6; parts++) {
            BeachedShip x = light();
            x.tackle(0, parts, 400);
            Due.is(0, x.tackleTold(0, 1), s + "0 by " + parts);
            x.heel(-1);
            Due.is(rope[parts - 1], x.tackleTold(0, 1), s + "10 by " + parts);
        }
        BeachedShip x = light();
        for (int i = 0; i < 3; i++) {
            x.tackle(0, 3, 400);
        }
        x.heel(1);
        Due.is(2, x.tackleTold(0, 1), s + "10 by 3 is 4, rounded up first; 4 by 3 is 2");
    }

    private static void aMastTakesTheSum() {
        String s = "a MAST the sum of what its TACKLES take: ";
        BeachedShip x = light();
        int[] masts = {1, 0, 1};
        for (int m : masts) {
            x.tackle(m, 6, 400);
        }
        x.heel(1);
        x.rule(6, 8);
        Due.is(1, x.ship(6), s + "twice 4 of 8");
        x.rule(6, 7);
        Due.is(0, x.ship(6), s + "twice 4 of 7");
        x.rule(6, 8);
        x.rule(5, 4);
        x.rule(7, 0);
        Due.is(1, x.ship(6), s + "4 of 4, and nothing of 0");
        x.rule(5, 3);
        Due.is(0, x.ship(6), s + "4 of 3");
    }

    private static void holdsIfNIsNot0OrForceIs0() {
        String s = "It HOLDS, if n is not 0 or FORCE is 0: ";
        BeachedShip x = new BeachedShip();
        Due.is(1, x.ship(6), s + "no TACKLE, FORCE 0");
        Due.is(0, x.greatest(false), s + "no TACKLE: 0 is the greatest");
        Due.is(-102, x.heel(1), s + "no TACKLE, FORCE 40");
        x.tackle(0, 6, 400);
        Due.is(1, x.rig(0, false), s + "none WHOLE, FORCE 0");
        Due.is(1, x.ship(6), s + "none WHOLE, FORCE 0");
        Due.is(0, x.greatest(true), s + "none WHOLE: 0 is the greatest");
        Due.is(-102, x.heel(-1), s + "none WHOLE, FORCE 40");
        x.rig(0, true);
        Due.is(-1, x.heel(-1), s + "one WHOLE");
        Due.is(-2, x.rig(0, false), s + "not without it");
    }

    private static void eachRopeTakesStrengthAtMost() {
        String s = "each rope takes STRENGTH at most: ";
        BeachedShip x = light();
        x.tackle(0, 1, 5);
        Due.is(0, x.greatest(false), s + "10 of 5");
        x.tackle(1, 2, 3);
        Due.is(1, x.greatest(false), s + "5 of 5, and 3 of 3");
        x.rule(1, 101);
        Due.is(1, x.greatest(false), s + "10, cut");
        x.rule(1, 110);
        Due.is(0, x.greatest(false), s + "6 of 5, and 3 of 3");
        BeachedShip y = light();
        y.tackle(0, 1, 10);
        Due.is(1, y.heel(1), s + "10 of 10");
        BeachedShip z = light();
        z.tackle(0, 1, 9);
        Due.is(-102, z.heel(1), s + "10 of 9");
    }

    private static void inRainStrengthTimes3By4Cut() {
        String s = "in RAIN STRENGTH times 3 by 4, cut: ";
        int[][] strengths = {{1, 0}, {2, 1}, {3, 2}, {4, 3}, {5, 3}, {13, 9}, {14, 10}, {399, 299}, {400, 300}};
        for (int[] a : strengths) {
            BeachedShip x = light();
            x.tackle(0, 1, a[0]);
            Due.is(a[0], x.tackleTold(0, 2), s + "dry " + a[0]);
            Due.is(a[0] >= 10 ? 1 : 0, Math.min(1, x.greatest(false)), s + "10 of " + a[0] + ", dry");
            x.rain(0, true);
            Due.is(a[1], x.tackleTold(0, 2), s + a[0]);
            Due.is(a[1] >= 10 ? 1 : 0, Math.min(1, x.greatest(true)), s + "10 of " + a[1]);
            Due.is(a[1] >= 10 ? 1 : -102, x.heel(1), s + "HEEL goes with 10 of " + a[1]);
        }
    }

    private static void eachMastTakesWhatItBearsAtMost() {
        String s = "each MAST what it bears at most: ";
        BeachedShip x = light();
        x.tackle(2, 6, 400);
        x.rule(7, 10);
        Due.is(1, x.greatest(false), s + "10 of 10");
        Due.is(1, x.greatest(true), s + "10 of 10, whatever the RAIN");
        x.rule(7, 9);
        Due.is(0, x.greatest(false), s + "10 of 9");
        x.rule(7, 0);
        Due.is(0, x.greatest(false), s + "10 of 0");
        Due.is(1, x.ship(6), s + "0 of 0");
    }

    private static void allHeels() {
        heelIsMinus9To9();
        heelIs0AtFirst();
        forceIsCut();
        greatestIs0To9();
    }

    private static void heelIsMinus9To9() {
        String s = "HEEL is -9 to 9: ";
        int[] sides = {1, -1};
        for (int side : sides) {
            BeachedShip x = Ships.strong();
            for (int i = 1; i <= 9; i++) {
                Due.is(side * i, x.heel(side), s + side * i);
                x.hour(0);
            }
            Due.is(-102, x.heel(side), s + "beyond " + side * 9);
            Due.is(side * 9, x.ship(2), s + "stays at " + side * 9);
            Due.is(side * 8, x.heel(-side), s + "back from " + side * 9);
        }
    }

    private static void heelIs0AtFirst() {
        Due.is(0, new BeachedShip().ship(2), "HEEL is 0 at first");
        Due.is(0, new BeachedShip().ship(3), "HEEL is 0 at first: FORCE");
    }

    private static void forceIsCut() {
        String s = "FORCE of a HEEL is TOTAL times its size by 10, cut: ";
        int[] sides = {1, -1};
        for (int side : sides) {
            BeachedShip x = Ships.strong();
            x.rule(1, 109);
            x.heel(side);
            Due.is(10, x.ship(3), s + "109 at " + side);
            x.rule(1, 110);
            Due.is(11, x.ship(3), s + "110 at " + side);
            x.rule(1, 109);
            x.hour(0);
            x.heel(side);
            Due.is(21, x.ship(3), s + "109 at " + 2 * side);
        }
        BeachedShip x = Ships.strong();
        x.rule(1, 1000);
        for (int i = 0; i < 12; i++) {
            x.thing(100, -1);
        }
        Ships.heelTo(x, 9);
        Due.is(1980, x.ship(3), s + "2200 at 9");
        Due.is(330, x.tackleTold(0, 0), s + "1980 by 6");
        Due.is(1, x.ship(6), s + "660 on each MAST, 55 on each rope");
    }

    private static void greatestIs0To9() {
        String s = "The greatest size of HEEL (0 to 9) that HOLDS: ";
        for (int size = 0; size <= 10; size++) {
            BeachedShip x = light();
            x.rule(5, 1000);
            x.tackle(0, 1, Math.max(1, 10 * size));
            Due.is(Math.min(9, size), x.greatest(false), s + "STRENGTH for " + size);
            if (size > 0) {
                x.rule(5, 10 * size - 1);
                Due.is(Math.min(9, size - 1), x.greatest(false), s + "a MAST for less than " + size);
            }
        }
    }
}
