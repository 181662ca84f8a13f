/** The edges that the second part of the Terms names: a test of its own for each sentence. */
final class EdgesOfSeams {
    private static final int OLD = 0;
    private static final int OPEN = 1;
    private static final int TIGHT = 2;
    private static final int LEAST = Integer.MIN_VALUE;
    private static final int MOST = Integer.MAX_VALUE;

    private EdgesOfSeams() {
    }

    static void all() {
        seamsAre0To11();
        numberIs(0, 1, 10, "STRAKE (1 to 10)");
        numberIs(1, 0, 1, "SIDE (0, 1)");
        numberIs(2, 1, 6, "HANDS (1 to 6 MEN)");
        numberIs(3, 1, 4, "LONG (1 to 4 HOURS)");
        numberIs(4, 0, 50, "PITCH for it (0 to 50)");
        numberIs(5, 1, 100, "WORTH (1 to 100)");
        oldAtFirst();
        openWhenItIsRaked();
        tightWhenLongHoursAreDone();
        bareBelow4StrakeAnd3Heel();
        bareBelow4StrakeLess3Heel();
        hoursBareToHour95();
        allOrders();
        allWater();
        allParting();
    }

    private static void seamsAre0To11() {
        String s = "SEAMS 0 to 11 as they come: ";
        BeachedShip x = new BeachedShip();
        Due.is(-1, x.seamTold(0, 0), s + "none there");
        for (int i = 0; i < 12; i++) {
            Due.is(i, x.seam(5, 0, 1, 1, 0, 1), s + i);
        }
        Due.is(-3, x.seam(5, 0, 1, 1, 0, 1), s + "FULL behind 11");
        Due.is(12, x.count(4), s + "twelve");
        Due.is(0, x.seamTold(11, 0), s + "11 is one");
        Due.is(-1, x.seamTold(12, 0), s + "12 is none");
    }

    private static int seam(BeachedShip x, int[] a) {
        return x.seam(a[0], a[1], a[2], a[3], a[4], a[5]);
    }

    private static void numberIs(int i, int least, int most, String s) {
        BeachedShip x = new BeachedShip();
        int[] a = {5, 0, 2, 2, 10, 10};
        int[] none = {least - 1, most + 1, LEAST, MOST};
        for (int v : none) {
            a[i] = v;
            Due.is(-1, seam(x, a), s + ": not " + v);
        }
        a[i] = least;
        Due.is(0, seam(x, a), s + ": the least");
        a[i] = most;
        Due.is(1, seam(x, a), s + ": the most");
    }

    private static BeachedShip lowTide() {
        BeachedShip x = new BeachedShip();
        Ships.tideAll(x, 0);
        return x;
    }

    private static void oldAtFirst() {
        BeachedShip x = lowTide();
        x.seam(5, 0, 1, 1, 0, 1);
        x.hour(1);
        x.seam(5, 0, 1, 1, 0, 1);
        Due.is(OLD, x.seamTold(1, 0), "OLD at first");
        Due.is(0, x.seamTold(1, 2), "OLD at first: no work done");
    }

    private static void openWhenItIsRaked() {
        String s = "OPEN, when it is raked: ";
        BeachedShip x = lowTide();
        x.seam(5, 0, 1, 1, 50, 1);
        Due.is(0, x.count(5), s + "not ahead of that");
        x.hour(1);
        Due.is(OPEN, x.seamTold(0, 0), s + "after one HOUR");
        Due.is(0, x.seamTold(0, 2), s + "no HOUR of work done");
        Due.is(1, x.count(5), s + "one");
        Due.is(0, x.book(0), s + "no PITCH taken");
        Due.is(1, x.book(1), s + "an HOUR of MEN");
    }

    private static void tightWhenLongHoursAreDone() {
        String s = "TIGHT, when LONG HOURS of work behind that are done: ";
        for (int hours = 1; hours <= 4; hours++) {
            BeachedShip x = lowTide();
            x.seam(5, 0, 1, hours, 0, 1);
            x.hour(1);
            for (int done = 0; done < hours; done++) {
                Due.is(OPEN, x.seamTold(0, 0), s + done + " of " + hours);
                Due.is(done, x.seamTold(0, 2), s + "done of " + hours);
                x.hour(1);
            }
            Due.is(TIGHT, x.seamTold(0, 0), s + hours + " of " + hours);
            Due.is(hours, x.seamTold(0, 2), s + "all done of " + hours);
        }
    }

    /** SEAM 0 of this kind is BARE by TIDES below this one, and not by this one; told as work shows it, too. */
    private static void bareBelow(int strake, int side, int heel, int bound, String s) {
        for (int tide = Math.max(0, bound - 1); tide <= Math.max(0, Math.min(bound, 60)); tide++) {
            BeachedShip x = Ships.strong();
            x.seam(strake, side, 1, 1, 0, 1);
            Ships.heelTo(x, heel);
            x.tide(x.count(7), tide);
            String told = s + "STRAKE " + strake + ", HEEL " + heel + ", TIDE " + tide;
            int bare = tide < bound ? 1 : 0;
            Due.is(bare, x.seamTold(0, 1), told);
            x.hour(1);
            Due.is(bare, x.seamTold(0, 0), told + ": raked if it is BARE");
        }
    }

    private static final int[][] BOUNDS = {{1, 0, 4}, {10, 0, 40}, {1, 1, 7}, {1, -1, 1}, {7, -9, 1}, {6, -9, -3},
        {1, -9, -23}, {1, 9, 31}, {10, 6, 58}, {8, 9, 59}, {9, 8, 60}, {10, 7, 61}, {10, 9, 67}, {5, 2, 26},
        {5, -2, 14}};

    private static void bareBelow4StrakeAnd3Heel() {
        for (int[] b : BOUNDS) {
            bareBelow(b[0], 0, b[1], b[2], "BARE, if TIDE is below 4 STRAKE and 3 HEEL (SIDE 0): ");
        }
    }

    private static void bareBelow4StrakeLess3Heel() {
        for (int[] b : BOUNDS) {
            bareBelow(b[0], 1, -b[1], b[2], "BARE, if TIDE is below 4 STRAKE less 3 HEEL (SIDE 1): ");
        }
    }

    private static void hoursBareToHour95() {
        String s = "how many HOURS it is BARE from this one on, without a break: ";
        BeachedShip x = lowTide();
        x.seam(5, 0, 1, 1, 0, 1);
        Due.is(96, x.seamTold(0, 3), s + "all");
        x.tide(95, 20);
        Due.is(95, x.seamTold(0, 3), s + "all but the last");
        x.tide(50, 20);
        Due.is(50, x.seamTold(0, 3), s + "to the first break");
        x.tide(0, 20);
        Due.is(0, x.seamTold(0, 3), s + "none");
        x.tide(95, 19);
        Ships.hours(x, 94);
        Due.is(2, x.seamTold(0, 3), s + "from HOUR 94 on");
        x.hour(0);
        Due.is(1, x.seamTold(0, 3), s + "HOUR 95 alone");
    }

    private static void allOrders() {
        ordersOfNoSeam();
        ordersOfAllTwelve();
        oneThatIsBare();
        withoutRain();
        handsAreLeftOfMen();
        theFirstTakesItsPitch();
        ifThereIsNotSoMuchNothingIsDone();
        itsMenAreFree();
        othersOfTheSetAreLeft();
        seamsByNumbers();
    }

    private static void ordersOfNoSeam() {
        String s = "ORDERS: a set of SEAMS, the empty one: ";
        BeachedShip x = new BeachedShip();
        Due.is(0, x.hour(0), s + "no SEAM there");
        BeachedShip y = lowTide();
        y.seam(5, 0, 1, 1, 0, 1);
        y.hour(0);
        Due.is(OLD, y.seamTold(0, 0), s + "nothing is raked");
        Due.is(1, y.count(7), s + "the HOUR goes by");
    }

    private static void ordersOfAllTwelve() {
        String s = "ORDERS: a set of SEAMS, all twelve: ";
        BeachedShip x = lowTide();
        for (int i = 0; i < 12; i++) {
            x.seam(5, 0, 1, 1, 0, 1);
        }
        x.rule(3, 11);
        x.hour(4095);
        Due.is(11, x.count(5), s + "11 MEN");
        Due.is(OLD, x.seamTold(11, 0), s + "11 MEN: the last is left");
        x.rule(3, 12);
        x.hour(4095);
        Due.is(11, x.count(6), s + "12 MEN");
        Due.is(OPEN, x.seamTold(11, 0), s + "12 MEN: the last as well");
        Due.is(23, x.book(1), s + "HOURS of MEN");
    }

    private static void oneThatIsBare() {
        String s = "ORDERS: one that is BARE: ";
        BeachedShip x = lowTide();
        x.seam(5, 0, 1, 1, 0, 1);
        x.tide(0, 20);
        x.tide(2, 20);
        x.hour(1);
        Due.is(OLD, x.seamTold(0, 0), s + "not raked by TIDE 20");
        x.tide(1, 19);
        x.hour(1);
        Due.is(OPEN, x.seamTold(0, 0), s + "raked by TIDE 19");
        x.hour(1);
        Due.is(OPEN, x.seamTold(0, 0), s + "no work by TIDE 20");
        x.tide(3, 19);
        x.hour(1);
        Due.is(TIGHT, x.seamTold(0, 0), s + "work by TIDE 19");
    }

    private static void withoutRain() {
        String s = "ORDERS: without RAIN: ";
        BeachedShip x = lowTide();
        x.seam(5, 0, 1, 1, 5, 1);
        boolean[] rain = {true, false, true, false};
        int[] state = {OLD, OPEN, OPEN, TIGHT};
        for (int h = 0; h < rain.length; h++) {
            x.rain(h, rain[h]);
            x.hour(1);
            Due.is(state[h], x.seamTold(0, 0), s + "HOUR " + h);
        }
        Due.is(2, x.book(1), s + "no MEN work in RAIN");
        Due.is(5, x.book(0), s + "no PITCH is taken in RAIN");
    }

    private static void handsAreLeftOfMen() {
        String s = "ORDERS: for which HANDS are left of MEN: ";
        BeachedShip x = lowTide();
        x.rule(3, 5);
        x.seam(5, 0, 6, 1, 0, 1);
        x.seam(5, 0, 5, 1, 0, 1);
        x.hour(1);
        Due.is(OLD, x.seamTold(0, 0), s + "6 of 5");
        x.hour(2);
        Due.is(OPEN, x.seamTold(1, 0), s + "5 of 5");
        x.hour(3);
        Due.is(TIGHT, x.seamTold(1, 0), s + "6 of 5 takes none from the next");
        x.rule(3, 6);
        x.hour(3);
        Due.is(OPEN, x.seamTold(0, 0), s + "6 of 6");
        BeachedShip y = lowTide();
        y.rule(3, 1);
        y.seam(5, 0, 1, 1, 0, 1);
        y.seam(5, 0, 1, 1, 0, 1);
        y.hour(3);
        Due.is(OPEN, y.seamTold(0, 0), s + "1 of 1");
        Due.is(OLD, y.seamTold(1, 0), s + "1 of 0");
    }

    private static void theFirstTakesItsPitch() {
        String s = "one HOUR of work more is done; the first takes its PITCH: ";
        BeachedShip x = lowTide();
        x.seam(5, 0, 1, 3, 50, 1);
        x.rule(4, 50);
        int[] taken = {0, 50, 50, 50};
        for (int h = 0; h < taken.length; h++) {
            x.hour(1);
            Due.is(taken[h], x.book(0), s + "behind HOUR " + h);
            Due.is(50 - taken[h], x.book(5), s + "left behind HOUR " + h);
        }
        Due.is(TIGHT, x.seamTold(0, 0), s + "then there need be none");
    }

    private static void ifThereIsNotSoMuchNothingIsDone() {
        String s = "if there is not so much: nothing is done on it: ";
        BeachedShip x = lowTide();
        x.seam(5, 0, 1, 1, 50, 1);
        x.rule(4, 49);
        x.hour(1);
        Due.is(OPEN, x.seamTold(0, 0), s + "raking needs none");
        x.hour(1);
        Due.is(0, x.seamTold(0, 2), s + "49 of 50");
        Due.is(49, x.book(5), s + "49 stay");
        x.rule(4, 50);
        x.hour(1);
        Due.is(1, x.seamTold(0, 2), s + "50 of 50");
        Due.is(0, x.book(5), s + "none stays");
        BeachedShip y = lowTide();
        y.rule(4, 0);
        y.seam(5, 0, 1, 1, 0, 1);
        y.seam(5, 0, 1, 1, 1, 1);
        y.hour(3);
        y.hour(3);
        Due.is(TIGHT, y.seamTold(0, 0), s + "0 of 0");
        Due.is(OPEN, y.seamTold(1, 0), s + "1 of 0");
    }

    private static void itsMenAreFree() {
        String s = "if there is not so much: its MEN are free: ";
        BeachedShip x = lowTide();
        x.rule(3, 6);
        x.rule(4, 9);
        x.seam(5, 0, 6, 1, 10, 1);
        x.seam(5, 0, 6, 1, 9, 1);
        x.hour(1);
        x.hour(2);
        Due.is(12, x.book(1), s + "HOURS of MEN to begin with");
        x.hour(1);
        Due.is(12, x.book(1), s + "they did not work");
        x.hour(3);
        Due.is(TIGHT, x.seamTold(1, 0), s + "they do the next");
        Due.is(18, x.book(1), s + "then they worked");
    }

    private static void othersOfTheSetAreLeft() {
        String s = "others of the set are left: ";
        BeachedShip x = lowTide();
        x.rule(3, 6);
        x.seam(5, 0, 6, 1, 10, 1);
        x.seam(5, 0, 6, 1, 10, 1);
        x.hour(1);
        x.hour(1);
        Due.is(TIGHT, x.seamTold(0, 0), s + "a TIGHT one to begin with");
        x.hour(3);
        Due.is(TIGHT, x.seamTold(0, 0), s + "a TIGHT one stays");
        Due.is(1, x.seamTold(0, 2), s + "a TIGHT one has no more work");
        Due.is(10, x.book(0), s + "a TIGHT one takes no PITCH");
        Due.is(OPEN, x.seamTold(1, 0), s + "a TIGHT one takes no MEN");
        Due.is(18, x.book(1), s + "HOURS of MEN");
    }

    private static void seamsByNumbers() {
        String s = "ORDERS: a set of SEAMS, by numbers: ";
        BeachedShip x = lowTide();
        x.rule(3, 6);
        x.rule(4, 10);
        x.seam(5, 0, 4, 1, 10, 1);
        x.seam(5, 0, 3, 1, 10, 100);
        x.seam(5, 0, 2, 1, 10, 50);
        x.hour(7);
        int[] raked = {OPEN, OLD, OPEN};
        for (int i = 0; i < 3; i++) {
            Due.is(raked[i], x.seamTold(i, 0), s + "MEN, SEAM " + i);
        }
        x.hour(7);
        int[] done = {TIGHT, OLD, OPEN};
        for (int i = 0; i < 3; i++) {
            Due.is(done[i], x.seamTold(i, 0), s + "PITCH, SEAM " + i);
        }
    }

    private static void allWater() {
        eachOpenSeamFloods();
        oldAndTightOnesDoNotFlood();
        withoutAnyWaterIs5Less();
        waterIsNotBelow0();
        waterAbove100SheIsLost();
        noHourGoesByAnyMore();
    }

    private static void eachOpenSeamFloods() {
        String s = "each OPEN SEAM that is not BARE floods: WATER is 10 more: ";
        BeachedShip x = lowTide();
        x.rule(3, 20);
        for (int i = 0; i < 12; i++) {
            x.seam(5, i == 11 ? 1 : 0, 1, 1, 0, 1);
        }
        x.hour(1);
        x.tide(1, 20);
        Due.is(10, x.hour(0), s + "one");
        Due.is(5, x.hour(0), s + "one that is BARE does not");
        x.hour(2);
        x.tide(4, 20);
        Due.is(20, x.hour(0), s + "two");
        Due.is(15, x.hour(4095), s + "two are TIGHT, ten OPEN and BARE");
        x.tide(6, 19);
        Due.is(10, x.hour(0), s + "ten by TIDE 19");
        x.tide(7, 20);
        Due.is(110, x.hour(0), s + "ten by TIDE 20");
    }

    private static void oldAndTightOnesDoNotFlood() {
        String s = "each OPEN SEAM floods: ";
        BeachedShip x = lowTide();
        x.seam(5, 0, 1, 1, 0, 1);
        x.tide(0, 60);
        Due.is(0, x.hour(1), s + "not an OLD one");
        x.hour(1);
        x.hour(1);
        x.tide(3, 60);
        Due.is(0, x.hour(1), s + "not a TIGHT one");
        BeachedShip y = lowTide();
        y.seam(5, 0, 1, 1, 0, 1);
        y.hour(1);
        y.tide(1, 60);
        y.rain(1, true);
        Due.is(10, y.hour(1), s + "in RAIN, too");
        y.rain(2, true);
        Due.is(5, y.hour(1), s + "not a BARE one in RAIN");
    }

    /** WATER 10, HOUR 2; SEAM 0 is OPEN, and floods by TIDE 20. */
    private static BeachedShip wet() {
        BeachedShip x = lowTide();
        x.seam(5, 0, 1, 1, 0, 1);
        x.tide(1, 20);
        x.hour(1);
        x.hour(0);
        Due.is(10, x.ship(4), "WATER to begin with");
        return x;
    }

    private static void withoutAnyWaterIs5Less() {
        String s = "Without any WATER is 5 less: ";
        BeachedShip x = wet();
        x.tide(2, 20);
        Due.is(20, x.hour(0), s + "not with one");
        Due.is(15, x.hour(0), s + "with none");
        Due.is(10, x.hour(1), s + "when the last is TIGHT");
    }

    private static void waterIsNotBelow0() {
        String s = "not below 0 (pumps): ";
        BeachedShip x = wet();
        int[] water = {5, 0, 0, 0};
        for (int w : water) {
            Due.is(w, x.hour(0), s + w);
        }
        x.tide(6, 20);
        Due.is(10, x.hour(0), s + "from 0 on, and not from below");
    }

    private static void waterAbove100SheIsLost() {
        String s = "WATER above 100: SHE IS LOST: ";
        BeachedShip x = wet();
        for (int h = 2; h < 11; h++) {
            x.tide(h, 20);
            x.hour(0);
        }
        Due.is(100, x.ship(4), s + "WATER 100");
        Due.is(0, x.ship(7), s + "not at 100");
        x.keep();
        Due.is(95, x.hour(0), s + "not at 100: pumps");
        x.tide(12, 20);
        Due.is(105, x.hour(0), s + "WATER 105");
        Due.is(1, x.ship(7), s + "at 105");
        x.back();
        Due.is(0, x.ship(7), s + "not at 100 again");
        x.tide(11, 20);
        Due.is(110, x.hour(0), s + "WATER 110");
        Due.is(1, x.ship(7), s + "at 110");
    }

    private static void noHourGoesByAnyMore() {
        String s = "SHE IS LOST: no HOUR goes by any more: ";
        BeachedShip x = Ships.lost();
        int hour = x.count(7);
        for (int h = hour; h < 96; h += 8) {
            x.tides(h, Math.min(8, 96 - h), 0L);
        }
        for (int i = 0; i < 3; i++) {
            Due.is(-2, x.hour(0), s + "NO");
        }
        Due.is(hour, x.count(7), s + "the HOUR stays");
        Due.is(110, x.ship(4), s + "WATER stays, though all is BARE");
        Due.is(-2, x.hour(1), s + "nothing is done");
        Due.is(OPEN, x.seamTold(0, 0), s + "nothing is done on it");
    }

    private static void allParting() {
        asLongAsHeelDoesNotHold();
        whoseRopeTakesMostAbove();
        whereOnlyAMastIsOver();
        theLowestMastFirst();
        noneWholeLeftHeelIs0();
        inThisHoursRain();
    }

    private static BeachedShip rigged(int hull, int[] masts, int[] strengths) {
        BeachedShip x = new BeachedShip();
        x.rule(1, 100);
        for (int i = 0; i < masts.length; i++) {
            x.tackle(masts[i], 1, strengths[i]);
        }
        Due.is(1, x.heel(1), "HEEL to begin with");
        x.rule(1, hull);
        return x;
    }

    private static void wholeAre(BeachedShip x, String s, int... whole) {
        int parted = 0;
        for (int i = 0; i < whole.length; i++) {
            Due.is(whole[i], x.tackleTold(i, 3), s + "TACKLE " + i);
            parted += 1 - whole[i];
        }
        Due.is(parted, x.book(2), s + "how many PARTED");
    }

    private static void asLongAsHeelDoesNotHold() {
        String s = "as long as HEEL does not HOLD, a TACKLE PARTS: ";
        BeachedShip x = rigged(400, new int[] {0, 1}, new int[] {20, 40});
        x.hour(0);
        wholeAre(x, s + "20 of 20, 20 of 40: ", 1, 1);
        x.rule(1, 410);
        x.hour(0);
        wholeAre(x, s + "21 of 20, then 41 of 40: ", 0, 0);
        BeachedShip y = rigged(400, new int[] {0, 1}, new int[] {19, 40});
        y.hour(0);
        wholeAre(y, s + "20 of 19, then 40 of 40: ", 0, 1);
        Due.is(1, y.ship(2), s + "HEEL stays, when it HOLDS");
        y.hour(0);
        wholeAre(y, s + "40 of 40 in the next HOUR: ", 0, 1);
    }

    private static void whoseRopeTakesMostAbove() {
        String s = "that TACKLE PARTS whose rope takes most above what it may: ";
        BeachedShip x = rigged(400, new int[] {0, 0, 1}, new int[] {40, 13, 40});
        x.hour(0);
        wholeAre(x, s + "14 of 13, then 20 each: ", 1, 0, 1);
        BeachedShip y = rigged(400, new int[] {0, 0, 1}, new int[] {40, 40, 13});
        y.hour(0);
        wholeAre(y, s + "the last of three: ", 1, 1, 0);
        BeachedShip z = rigged(600, new int[] {0, 0, 0}, new int[] {18, 60, 18});
        z.rule(5, 60);
        z.hour(0);
        wholeAre(z, s + "of several that are over as much all go, one by one: ", 0, 1, 0);
    }

    private static void whereOnlyAMastIsOver() {
        String s = "where only a MAST is over, or no rope: the lowest of that MAST: ";
        BeachedShip x = rigged(400, new int[] {0, 1, 1}, new int[] {400, 400, 400});
        x.rule(6, 28);
        x.hour(0);
        wholeAre(x, s + "28 of 28: ", 1, 1, 1);
        x.rule(6, 27);
        x.hour(0);
        wholeAre(x, s + "28 of 27: ", 1, 0, 1);
        BeachedShip y = rigged(400, new int[] {0, 1, 1}, new int[] {400, 400, 19});
        y.rule(6, 27);
        y.hour(0);
        wholeAre(y, s + "28 of 27, then a rope of 19 with 20: ", 1, 0, 0);
        BeachedShip z = rigged(600, new int[] {0, 1, 1}, new int[] {400, 400, 19});
        z.rule(6, 39);
        z.hour(0);
        wholeAre(z, s + "a rope of 19 with 20 ahead of a MAST of 39 with 40: ", 1, 1, 0);
    }

    private static void theLowestMastFirst() {
        String s = "the lowest MAST first: ";
        BeachedShip x = rigged(400, new int[] {2, 1, 1, 2}, new int[] {400, 400, 400, 400});
        x.rule(6, 19);
        x.rule(7, 19);
        x.hour(0);
        wholeAre(x, s + "20 each of 19, then 28 of 19 on MAST 2, then 20 on both, then 40: ", 0, 0, 0, 0);
        BeachedShip y = rigged(400, new int[] {2, 1, 1}, new int[] {400, 400, 400});
        y.rule(6, 20);
        y.rule(7, 13);
        y.hour(0);
        wholeAre(y, s + "28 of 20 on MAST 1, then 20 of 13 on MAST 2, then 40 of 20: ", 0, 0, 0);
        BeachedShip z = rigged(400, new int[] {1, 0, 2, 2}, new int[] {400, 400, 400, 400});
        z.rule(5, 9);
        z.rule(6, 9);
        z.rule(7, 40);
        z.hour(0);
        wholeAre(z, s + "10 of 9 on MAST 0, then 14 of 9 on MAST 1, then 40 of 40: ", 0, 0, 1, 1);
        BeachedShip w = rigged(1000, new int[] {2, 2, 1, 1, 0}, new int[] {400, 22, 400, 400, 400});
        w.rule(6, 39);
        w.rule(7, 39);
        w.hour(0);
        wholeAre(w, s + "40 of 39 on MAST 1, then a rope of 22 with 25, then 34 of 39 on both: ", 1, 0, 0, 1, 1);
    }

    private static void noneWholeLeftHeelIs0() {
        String s = "none WHOLE left: HEEL is 0: ";
        int[] sides = {1, -1};
        for (int side : sides) {
            BeachedShip x = Ships.strong();
            Ships.heelTo(x, 9 * side);
            for (int m = 0; m < 3; m++) {
                x.rule(5 + m, 0);
            }
            x.hour(0);
            Due.is(0, x.ship(2), s + "from " + 9 * side);
            Due.is(0, x.count(3), s + "all six PARTED");
            Due.is(6, x.book(2), s + "six in THE BOOK");
            Due.is(-102, x.heel(side), s + "it goes no more");
            Due.is(1, x.ship(6), s + "it HOLDS so");
        }
        BeachedShip y = rigged(1000, new int[] {0}, new int[] {99});
        y.hour(0);
        Due.is(0, y.ship(2), s + "the only one PARTS");
    }

    private static void inThisHoursRain() {
        String s = "HEEL does not HOLD (in this HOUR's RAIN): ";
        BeachedShip x = rigged(400, new int[] {0}, new int[] {53});
        x.rain(1, true);
        x.hour(0);
        wholeAre(x, s + "40 of 53, RAIN in the next HOUR: ", 1);
        Due.is(0, x.ship(6), s + "40 of 39 in HOUR 1");
        x.hour(0);
        wholeAre(x, s + "40 of 39: ", 0);
        BeachedShip y = rigged(400, new int[] {0}, new int[] {54});
        y.rain(0, true);
        y.hour(0);
        wholeAre(y, s + "40 of 40: ", 1);
    }
}
