/** The edges that the third part of the Terms names: a test of its own for each sentence. */
final class EdgesOfPlans {
    private static final int NONE = -4;
    private static final int[] FLOAT_NONE = {NONE, NONE, NONE};

    private EdgesOfPlans() {
    }

    static void all() {
        allPlans();
        allFloats();
    }

    private static BeachedShip lowTide() {
        BeachedShip x = new BeachedShip();
        Ships.tideAll(x, 0);
        return x;
    }

    private static void planIs(BeachedShip x, int n, int worth, int pitch, int bits, String s) {
        Due.is(worth, x.plan(n, 0), s + ": WORTH");
        Due.is(pitch, x.plan(n, 1), s + ": PITCH");
        Due.is(bits, x.plan(n, 2), s + ": SEAMS");
    }

    private static void beginningsAre(BeachedShip x, int n, String s, int... begins) {
        for (int i = 0; i < begins.length; i++) {
            Due.is(begins[i], x.plan(n, 3 + i), s + ": beginning of " + i);
        }
    }

    private static void ordersAre(BeachedShip x, String s, int... orders) {
        for (int i = 0; i < orders.length; i++) {
            Due.is(orders[i], x.orders(orders.length, i), s + ": ORDERS of HOUR " + i);
        }
    }

    private static void allPlans() {
        forNHours1To6();
        heelAsItIs();
        fromNowWhenAskedAgain();
        someMayBeNone();
        allTwelveTight();
        theFirst5Count();
        oneHourIfItIsOld();
        whatLacksOfLong();
        withoutABreak();
        allInTheseHours();
        bareInEachOfThem();
        withoutRainInEachOfThem();
        noMoreHandsThanMen();
        pitchOfAllIsThere();
        pitchThatHasBeenTaken();
        greatestWorth();
        leastPitch();
        leastBits();
        leastBeginnings();
        notBeyondHour95();
    }

    private static void forNHours1To6() {
        String s = "A PLAN for n HOURS (1 to 6): ";
        BeachedShip x = lowTide();
        Due.is(-1, x.plan(0, 0), s + "not 0");
        Due.is(-1, x.plan(7, 0), s + "not 7");
        Due.is(-1, x.orders(0, 0), s + "no ORDERS of 0");
        Due.is(-1, x.orders(7, 0), s + "no ORDERS of 7");
        x.seam(5, 0, 1, 1, 0, 1);
        x.hour(1);
        planIs(x, 1, 1, 0, 1, s + "1");
        ordersAre(x, s + "1", 1);
        x.tides(1, 5, 0x1414141414L);
        planIs(x, 5, 0, 0, 0, s + "5, BARE in the sixth");
        planIs(x, 6, 1, 0, 1, s + "6, BARE in the sixth");
        ordersAre(x, s + "6", 0, 0, 0, 0, 0, 1);
    }

    private static void heelAsItIs() {
        String s = "from now, HEEL as it is: ";
        BeachedShip x = Ships.strong();
        Ships.tideAll(x, 22);
        x.seam(5, 0, 1, 1, 0, 3);
        x.seam(5, 1, 1, 1, 0, 5);
        planIs(x, 6, 0, 0, 0, s + "HEEL 0: 22 of 20");
        x.heel(1);
        planIs(x, 6, 3, 0, 1, s + "HEEL 1: 22 of 23 and 17");
        x.tide(6, 23);
        x.hour(0);
        planIs(x, 6, 3, 0, 1, s + "from HOUR 1: HOURS 1 to 6");
        x.heel(-1);
        planIs(x, 6, 0, 0, 0, s + "HEEL 0 again");
    }

    private static void fromNowWhenAskedAgain() {
        String s = "from now: ";
        BeachedShip x = lowTide();
        x.rule(3, 4);
        x.seam(5, 0, 4, 1, 0, 1);
        x.seam(5, 0, 4, 1, 0, 1);
        x.seam(5, 0, 1, 1, 0, 1);
        planIs(x, 3, 1, 0, 1, s + "two of 4 HANDS need four HOURS");
        x.hour(1);
        planIs(x, 3, 2, 0, 3, s + "three, when the first is raked");
        ordersAre(x, s + "three", 1, 2, 2);
        x.hour(1);
        planIs(x, 2, 1, 0, 2, s + "the second and third, in the places of the first and second");
        planIs(x, 4, 2, 0, 6, s + "the second and third, in four HOURS");
        ordersAre(x, s + "the second and third", 2, 2, 4, 4);
    }

    private static void allTwelveTight() {
        String s = "of SEAMS that are OLD or OPEN some, of twelve: ";
        BeachedShip x = lowTide();
        x.rule(3, 12);
        for (int i = 0; i < 12; i++) {
            x.seam(5, 0, 1, 1, 0, 1);
        }
        x.hour(2047);
        x.hour(2047);
        planIs(x, 6, 1, 0, 2048, s + "the last alone");
        Due.is(0, x.plan(6, 14), s + "the last begins now");
        x.hour(2048);
        x.hour(2048);
        Due.is(12, x.count(6), s + "all are TIGHT");
        planIs(x, 6, 0, 0, 0, s + "all are TIGHT");
        Due.is(NONE, x.plan(6, 14), s + "all are TIGHT: the last");
        floatIs(x, s + "all are TIGHT: no TIDE", FLOAT_NONE);
    }

    private static void someMayBeNone() {
        String s = "of SEAMS that are OLD or OPEN some: ";
        BeachedShip x = lowTide();
        planIs(x, 6, 0, 0, 0, s + "no SEAM there");
        ordersAre(x, s + "no SEAM there", 0, 0, 0, 0, 0, 0);
        x.seam(5, 0, 1, 1, 0, 1);
        planIs(x, 1, 0, 0, 0, s + "none fits");
        beginningsAre(x, 1, s + "none fits", NONE);
        ordersAre(x, s + "none fits", 0);
        x.hour(1);
        x.hour(1);
        planIs(x, 6, 0, 0, 0, s + "all are TIGHT");
        beginningsAre(x, 6, s + "all are TIGHT", NONE);
    }

    private static void theFirst5Count() {
        String s = "the first 5 of these by numbers alone count: ";
        BeachedShip x = lowTide();
        x.rule(3, 20);
        for (int i = 0; i < 12; i++) {
            x.seam(5, 0, 1, 1, 0, i < 5 ? 1 : 100);
        }
        planIs(x, 6, 5, 0, 31, s + "five of twelve");
        Due.is(0, x.plan(6, 3 + 4), s + "the fifth");
        Due.is(NONE, x.plan(6, 3 + 5), s + "not the sixth");
        Due.is(NONE, x.plan(6, 3 + 11), s + "nor the last");
        x.hour(1);
        planIs(x, 6, 5, 0, 31, s + "an OPEN one counts");
        x.hour(1);
        planIs(x, 6, 104, 0, 62, s + "a TIGHT one does not");
        BeachedShip y = lowTide();
        for (int i = 0; i < 5; i++) {
            y.seam(1, 0, 6, 4, 50, 100);
        }
        y.seam(9, 0, 1, 1, 0, 1);
        y.tides(0, 6, 0x040404040404L);
        planIs(y, 6, 0, 0, 0, s + "though none of them fits");
    }

    private static void oneHourIfItIsOld() {
        String s = "it then has 1 HOUR (if it is OLD) and LONG: ";
        for (int hours = 1; hours <= 4; hours++) {
            BeachedShip x = lowTide();
            x.seam(5, 0, 1, hours, 0, 1);
            planIs(x, hours, 0, 0, 0, s + "OLD, too few for " + hours);
            planIs(x, hours + 1, 1, 0, 1, s + "OLD, just enough for " + hours);
            x.hour(1);
            planIs(x, hours, 1, 0, 1, s + "OPEN, just enough for " + hours);
            if (hours > 1) {
                planIs(x, hours - 1, 0, 0, 0, s + "OPEN, too few for " + hours);
            }
        }
    }

    private static void whatLacksOfLong() {
        String s = "what lacks of LONG: ";
        BeachedShip x = lowTide();
        x.seam(5, 0, 1, 4, 0, 1);
        x.hour(1);
        for (int lacks = 4; lacks >= 1; lacks--) {
            planIs(x, lacks, 1, 0, 1, s + "just enough for " + lacks);
            if (lacks > 1) {
                planIs(x, lacks - 1, 0, 0, 0, s + "too few for " + lacks);
            }
            int[] orders = new int[6];
            for (int i = 0; i < lacks; i++) {
                orders[i] = 1;
            }
            ordersAre(x, s + lacks, orders);
            x.hour(1);
        }
        planIs(x, 6, 0, 0, 0, s + "nothing");
    }

    private static void withoutABreak() {
        String s = "without a break: ";
        BeachedShip x = lowTide();
        x.seam(5, 0, 1, 2, 0, 1);
        x.tide(2, 20);
        planIs(x, 5, 0, 0, 0, s + "two and two are not three");
        planIs(x, 6, 1, 0, 1, s + "three behind it");
        beginningsAre(x, 6, s + "three behind it", 3);
        BeachedShip y = lowTide();
        y.rule(3, 4);
        y.seam(5, 0, 2, 3, 0, 9);
        y.seam(5, 0, 3, 1, 0, 5);
        planIs(y, 4, 9, 0, 1, s + "no other in its midst");
        planIs(y, 6, 14, 0, 3, s + "one behind the other");
    }

    private static void allInTheseHours() {
        String s = "all in these n HOURS: ";
        BeachedShip x = lowTide();
        x.seam(5, 0, 1, 4, 0, 1);
        x.tide(0, 20);
        planIs(x, 5, 0, 0, 0, s + "1 to 5 are not in 5");
        planIs(x, 6, 1, 0, 1, s + "1 to 5 are in 6");
        beginningsAre(x, 6, s + "1 to 5 are in 6", 1);
        x.tide(1, 20);
        planIs(x, 6, 0, 0, 0, s + "2 to 6 are not in 6");
    }

    private static void bareInEachOfThem() {
        String s = "BARE: ";
        for (int h = 0; h < 3; h++) {
            BeachedShip x = lowTide();
            x.seam(5, 0, 1, 2, 0, 1);
            x.tide(h, 20);
            planIs(x, 3, 0, 0, 0, s + "not by TIDE 20 in " + h);
            x.tide(h, 19);
            planIs(x, 3, 1, 0, 1, s + "by TIDE 19 in " + h);
        }
    }

    private static void withoutRainInEachOfThem() {
        String s = "without RAIN: ";
        for (int h = 0; h < 4; h++) {
            BeachedShip x = lowTide();
            x.seam(5, 0, 1, 2, 0, 1);
            x.rain(h, true);
            planIs(x, 3, h < 3 ? 0 : 1, 0, h < 3 ? 0 : 1, s + "RAIN in " + h);
        }
    }

    private static void noMoreHandsThanMen() {
        String s = "in no HOUR more HANDS together than MEN: ";
        BeachedShip x = lowTide();
        x.seam(5, 0, 6, 1, 0, 1);
        x.seam(5, 0, 6, 1, 0, 1);
        x.rule(3, 12);
        planIs(x, 2, 2, 0, 3, s + "12 of 12");
        x.rule(3, 11);
        planIs(x, 2, 1, 0, 1, s + "12 of 11");
        planIs(x, 3, 1, 0, 1, s + "they share one HOUR of three");
        planIs(x, 4, 2, 0, 3, s + "one behind the other");
        beginningsAre(x, 4, s + "one behind the other", 0, 2);
        x.rule(3, 6);
        planIs(x, 4, 2, 0, 3, s + "6 of 6");
        x.rule(3, 5);
        planIs(x, 6, 0, 0, 0, s + "6 of 5");
        BeachedShip y = lowTide();
        y.rule(3, 20);
        for (int i = 0; i < 5; i++) {
            y.seam(5, 0, i == 4 ? 5 : 4, 1, 0, 1);
        }
        planIs(y, 2, 4, 0, 15, s + "21 of 20");
        BeachedShip z = lowTide();
        z.rule(3, 20);
        for (int i = 0; i < 5; i++) {
            z.seam(5, 0, 4, 1, 0, 1);
        }
        planIs(z, 2, 5, 0, 31, s + "20 of 20");
    }

    private static void pitchOfAllIsThere() {
        String s = "PITCH of all is there: ";
        BeachedShip x = lowTide();
        x.seam(5, 0, 1, 1, 50, 1);
        x.seam(5, 0, 1, 1, 50, 1);
        planIs(x, 2, 2, 100, 3, s + "100 of 100");
        x.rule(4, 99);
        planIs(x, 2, 1, 50, 1, s + "100 of 99");
        x.rule(4, 50);
        planIs(x, 2, 1, 50, 1, s + "50 of 50");
        x.rule(4, 49);
        planIs(x, 2, 0, 0, 0, s + "50 of 49");
        x.rule(4, 0);
        x.seam(5, 0, 1, 1, 0, 1);
        planIs(x, 2, 1, 0, 4, s + "0 of 0");
    }

    private static void pitchThatHasBeenTaken() {
        String s = "PITCH of all (that has not been taken): ";
        BeachedShip x = lowTide();
        x.seam(5, 0, 1, 2, 30, 1);
        planIs(x, 3, 1, 30, 1, s + "OLD");
        x.hour(1);
        planIs(x, 2, 1, 30, 1, s + "raked");
        x.rule(4, 29);
        planIs(x, 2, 0, 0, 0, s + "raked: 30 of 29");
        x.rule(4, 30);
        x.hour(1);
        Due.is(0, x.book(5), s + "none is left");
        planIs(x, 1, 1, 0, 1, s + "taken");
    }

    private static void greatestWorth() {
        String s = "of greatest WORTH together: ";
        BeachedShip x = lowTide();
        x.rule(3, 6);
        x.seam(5, 0, 6, 1, 0, 10);
        x.seam(5, 0, 3, 1, 50, 5);
        x.seam(5, 0, 3, 1, 50, 6);
        planIs(x, 2, 11, 100, 6, s + "11 ahead of 10, whatever the PITCH");
        BeachedShip y = lowTide();
        y.rule(3, 6);
        for (int i = 0; i < 5; i++) {
            y.seam(5, 0, 1, 1, 20, 100);
        }
        planIs(y, 2, 500, 100, 31, s + "500 is the most");
    }

    private static void leastPitch() {
        String s = "of several that of least PITCH: ";
        BeachedShip x = lowTide();
        x.rule(3, 6);
        x.seam(5, 0, 6, 1, 11, 5);
        x.seam(5, 0, 6, 1, 10, 5);
        planIs(x, 2, 5, 10, 2, s + "10 ahead of 11");
        BeachedShip y = lowTide();
        y.rule(3, 6);
        y.seam(5, 0, 6, 3, 40, 5);
        y.seam(5, 0, 6, 1, 39, 5);
        y.hour(1);
        planIs(y, 3, 5, 39, 2, s + "raked: not taken yet");
        y.hour(1);
        planIs(y, 2, 5, 0, 1, s + "what was taken does not count");
    }

    private static void leastBits() {
        String s = "then of least bits of SEAMS: ";
        BeachedShip x = lowTide();
        x.rule(3, 6);
        for (int i = 0; i < 3; i++) {
            x.seam(5, 0, 6, 1, 10, 5);
        }
        planIs(x, 2, 5, 10, 1, s + "1 ahead of 2 and 4");
        planIs(x, 4, 10, 20, 3, s + "3 ahead of 5 and 6");
        BeachedShip y = lowTide();
        y.rule(3, 6);
        y.seam(5, 0, 3, 1, 5, 3);
        y.seam(5, 0, 3, 1, 5, 3);
        y.seam(5, 0, 6, 1, 10, 6);
        planIs(y, 2, 6, 10, 3, s + "3 ahead of 4");
    }

    private static void leastBeginnings() {
        String s = "each with its least beginning, SEAM by SEAM from the lowest on: ";
        BeachedShip x = lowTide();
        x.rule(3, 6);
        x.seam(5, 0, 6, 1, 0, 5);
        x.seam(5, 0, 6, 1, 0, 5);
        beginningsAre(x, 6, s + "the lowest begins now", 0, 2);
        x.seam(9, 0, 6, 1, 0, 5);
        beginningsAre(x, 6, s + "three", 0, 2, 4);
        x.tide(5, 20);
        beginningsAre(x, 6, s + "the last is BARE longer", 0, 2, 4);
        BeachedShip y = lowTide();
        y.rule(3, 6);
        y.seam(9, 0, 6, 1, 0, 5);
        y.seam(5, 0, 6, 1, 0, 5);
        y.tide(2, 20);
        y.tide(3, 20);
        beginningsAre(y, 4, s + "the lowest waits, for the WORTH of both", 2, 0);
        beginningsAre(y, 6, s + "the other may wait", 0, 4);
    }

    private static void notBeyondHour95() {
        String s = "NO: beyond HOUR 95: ";
        BeachedShip x = lowTide();
        x.seam(5, 0, 1, 1, 0, 1);
        Ships.hours(x, 90);
        for (int n = 6; n >= 1; n--) {
            planIs(x, n, n > 1 ? 1 : 0, 0, n > 1 ? 1 : 0, s + "the last " + n);
            Due.is(0, x.orders(n, n - 1) & ~1, s + "ORDERS of HOUR 95");
            x.hour(0);
            Due.is(-2, x.plan(n, 0), s + "one beyond with " + n);
            Due.is(-2, x.orders(n, 0), s + "no ORDERS beyond with " + n);
        }
    }

    private static void floatIs(BeachedShip x, String s, int... due) {
        for (int what = 0; what < 3; what++) {
            Due.is(due[what], x.toFloat(what), s + ": what " + what);
        }
    }

    private static void allFloats() {
        tillNoneIsOpen();
        heelGoesBy1AnHourTo0();
        atMost8AreOut();
        oneAnHour();
        asTheyMay();
        notAheadOfWhenAllIsDone();
        byTotalWithThisSet();
        theHourIsLeast();
        ofSeveralTheLeastBits();
        asItGoesATrialByForce();
        asItGoesATrialByMasts();
        asItGoesATrialBySides();
        noneIfTheTrialLosesHer();
        noneIfASeamStaysOpen();
        noneIfHour95IsNotEnough();
    }

    private static void tillNoneIsOpen() {
        String s = "first all OPEN SEAMS are worked on, till none is OPEN: ";
        BeachedShip x = lowTide();
        x.tide(95, 60);
        floatIs(x, s + "no SEAM there", 95, 0, 0);
        for (int i = 0; i < 12; i++) {
            x.seam(5, 0, 1, 4, 0, 1);
        }
        floatIs(x, s + "all OLD", 95, 0, 0);
        x.rule(3, 12);
        x.hour(4095);
        floatIs(x, s + "all OPEN", 95, 0, 5);
        x.rule(3, 6);
        floatIs(x, s + "all OPEN, half the MEN", 95, 0, 9);
        x.rule(3, 1);
        floatIs(x, s + "all OPEN, one man", 95, 0, 49);
        x.rule(3, 12);
        for (int i = 0; i < 4; i++) {
            x.hour(4095);
        }
        floatIs(x, s + "all TIGHT", 95, 0, 5);
    }

    private static void heelGoesBy1AnHourTo0() {
        String s = "then HEEL goes by 1 an HOUR to 0: ";
        int[] sides = {1, -1};
        for (int side : sides) {
            BeachedShip x = Ships.strong();
            Ships.tideAll(x, 60);
            floatIs(x, s + "it is 0", 0, 0, 0);
            Ships.heelTo(x, 9 * side);
            floatIs(x, s + "from " + 9 * side, 18, 0, 9);
            x.heel(-side);
            floatIs(x, s + "from " + 8 * side, 17, 0, 9);
        }
        BeachedShip y = Ships.strong();
        Ships.tideAll(y, 60);
        y.tide(1, 0);
        y.tide(2, 0);
        y.seam(5, 0, 1, 1, 0, 1);
        y.heel(1);
        y.hour(0);
        y.hour(1);
        y.tide(2, 22);
        floatIs(y, s + "behind the work", 4, 0, 3);
    }

    private static BeachedShip withOut(int out, int things) {
        BeachedShip x = new BeachedShip();
        Ships.tideAll(x, 60);
        for (int t = 0; t < things; t++) {
            x.thing(1, -1);
        }
        for (int t = 0; t < out; t++) {
            x.move(things - 1 - t);
            x.hour(0);
        }
        return x;
    }

    private static void atMost8AreOut() {
        String s = "8 at most are OUT, else NO: ";
        floatIs(withOut(8, 8), s + "8 of 8", 8, 0, 8);
        floatIs(withOut(8, 12), s + "8 of 12", 8, 0, 8);
        floatIs(withOut(9, 9), s + "9 of 9", -2, -2, -2);
        floatIs(withOut(9, 12), s + "9 of 12", -2, -2, -2);
        floatIs(withOut(12, 12), s + "12 of 12", -2, -2, -2);
        BeachedShip x = withOut(9, 12);
        x.move(3);
        floatIs(x, s + "8 again", 9, 0, 9);
        x.rule(2, 412);
        floatIs(x, s + "all 8 come IN", 17, 0b111111110000, 9);
    }

    private static void oneAnHour() {
        String s = "a set of THINGS that are OUT comes IN, one an HOUR: ";
        BeachedShip x = withOut(8, 8);
        x.hour(0);
        for (int k = 0; k <= 8; k++) {
            x.rule(2, 400 + k);
            floatIs(x, s + k, 9 + k, (1 << k) - 1, 9);
        }
        x.rule(2, 409);
        floatIs(x, s + "no ninth one", FLOAT_NONE);
    }

    private static void asTheyMay() {
        String s = "as they may: ";
        BeachedShip x = new BeachedShip();
        Ships.tideAll(x, 60);
        x.thing(1, -1);
        x.thing(1, 0);
        x.thing(50, 1);
        for (int t = 2; t >= 0; t--) {
            x.move(t);
            x.hour(0);
        }
        x.rule(2, 402);
        floatIs(x, s + "two, the lowest ones", 5, 3, 3);
        x.rule(2, 403);
        floatIs(x, s + "the last with both beneath it", 6, 7, 3);
        x.hour(0);
        x.move(0);
        x.rule(2, 451);
        floatIs(x, s + "the last with the one that is OUT beneath it", 6, 6, 4);
        x.hour(0);
        x.move(1);
        floatIs(x, s + "the last alone", 6, 4, 5);
    }

    private static void notAheadOfWhenAllIsDone() {
        String s = "in the first HOUR, not ahead of when all that is done: ";
        BeachedShip x = Ships.strong();
        Ships.tideAll(x, 60);
        for (int t = 0; t < 4; t++) {
            x.thing(1, -1);
        }
        for (int t = 0; t < 4; t++) {
            x.move(t);
            x.heel(t < 3 ? 1 : -1);
            x.hour(0);
        }
        floatIs(x, s + "HEEL 2 alone", 6, 0, 4);
        int[] hours = {6, 6, 6, 7, 8};
        for (int k = 0; k <= 4; k++) {
            x.rule(2, 400 + k);
            floatIs(x, s + "HEEL 2 and THINGS " + k, hours[k], (1 << k) - 1, 4);
        }
    }

    private static void byTotalWithThisSet() {
        String s = "SHE FLOATS by TOTAL with this set: ";
        BeachedShip x = new BeachedShip();
        Ships.tideAll(x, 30);
        x.thing(19, -1);
        x.move(0);
        x.hour(0);
        x.rule(2, 419);
        floatIs(x, s + "419: TIDE 20 and 10 of 30, BALLAST 419", 2, 1, 1);
        x.rule(2, 420);
        floatIs(x, s + "BALLAST 420 of 419", FLOAT_NONE);
        x.rule(2, 419);
        x.rule(0, 11);
        floatIs(x, s + "TIDE 20 and 11 of 30", FLOAT_NONE);
        x.rule(0, 10);
        x.rule(1, 401);
        floatIs(x, s + "420: TIDE 21 and 10 of 30", FLOAT_NONE);
        x.rule(2, 401);
        floatIs(x, s + "401: without it", 1, 0, 1);
    }

    private static void theHourIsLeast() {
        String s = "that set by which the HOUR is least: ";
        BeachedShip x = new BeachedShip();
        Ships.tideAll(x, 60);
        x.thing(10, -1);
        x.thing(10, -1);
        x.thing(20, -1);
        for (int t = 0; t < 3; t++) {
            x.move(t);
            x.hour(0);
        }
        x.rule(2, 420);
        floatIs(x, s + "4 in one HOUR ahead of 3 in two", 4, 4, 3);
        x.tide(4, 0);
        floatIs(x, s + "3 as soon as 4", 5, 3, 3);
        x.tide(3, 30);
        x.rule(2, 0);
        floatIs(x, s + "none is soonest", 3, 0, 3);
    }

    private static void ofSeveralTheLeastBits() {
        String s = "of several the least bits: ";
        BeachedShip x = withOut(3, 3);
        floatIs(x, s + "0 ahead of others", 3, 0, 3);
        x.rule(2, 401);
        floatIs(x, s + "1 ahead of 2 and 4", 4, 1, 3);
        x.rule(2, 402);
        floatIs(x, s + "3 ahead of 5 and 6", 5, 3, 3);
        x.move(0);
        floatIs(x, s + "2 ahead of 4", 4, 2, 3);
    }

    /** HEEL 2, HOUR 2; a SEAM is OPEN, which lacks an HOUR. TOTAL 450, FORCE 90 on each of two MASTS half. */
    private static BeachedShip heeledAndOpen() {
        BeachedShip x = new BeachedShip();
        Ships.tideAll(x, 60);
        x.tides(0, 3, 0L);
        x.thing(50, -1);
        x.tackle(1, 1, 45);
        x.tackle(2, 1, 400);
        x.seam(9, 0, 1, 1, 0, 1);
        x.heel(1);
        x.hour(1);
        x.heel(1);
        x.rain(1, true);
        x.rule(1, 100);
        x.hour(0);
        x.rule(1, 400);
        return x;
    }

    private static void asItGoesATrialByForce() {
        String s = "as it goes: a trial, by TOTAL as it is: ";
        BeachedShip x = heeledAndOpen();
        floatIs(x, s + "45 of 45 HOLDS: HEEL goes from 2", 5, 0, 3);
        x.rule(1, 410);
        x.rule(7, 91);
        floatIs(x, s + "46 of 45 parts, then 92 on MAST 2 of 91: HEEL is 0", 3, 0, 3);
        x.move(0);
        floatIs(x, s + "41 of 45 with the THING OUT", 5, 0, 3);
        Due.is(2, x.count(3), s + "nothing parts but in the trial");
    }

    private static void asItGoesATrialByMasts() {
        String s = "as it goes: a trial, by MASTS: ";
        BeachedShip x = heeledAndOpen();
        x.rule(5, 0);
        x.rule(6, 45);
        x.rule(7, 89);
        floatIs(x, s + "45 of 45 HOLDS", 5, 0, 3);
        x.rule(6, 44);
        floatIs(x, s + "45 of 44 parts, then 90 on MAST 2 of 89", 3, 0, 3);
        x.rule(7, 90);
        floatIs(x, s + "45 of 44 parts, then 90 on MAST 2 of 90", 5, 0, 3);
    }

    private static void asItGoesATrialBySides() {
        String s = "as it goes: a trial, by SIDES: ";
        BeachedShip x = Ships.strong();
        Ships.tideAll(x, 60);
        x.tides(0, 4, 0x15101500L);
        x.seam(6, 1, 1, 1, 0, 1);
        x.heel(1);
        x.hour(1);
        floatIs(x, s + "21 of 24 less 3, then 16", 4, 0, 3);
    }

    /** HOUR 1; a SEAM is OPEN and floods till WATER is 100 in HOUR 11, in which it is BARE. */
    private static BeachedShip almostLost() {
        BeachedShip x = new BeachedShip();
        Ships.tideAll(x, 60);
        x.tide(0, 0);
        x.tide(11, 0);
        x.seam(5, 0, 1, 1, 0, 1);
        x.hour(1);
        return x;
    }

    private static void noneIfTheTrialLosesHer() {
        String s = "None, if the trial loses her: ";
        BeachedShip x = almostLost();
        floatIs(x, s + "WATER 100", 12, 0, 12);
        x.tide(11, 20);
        x.tide(12, 0);
        floatIs(x, s + "WATER 110", FLOAT_NONE);
        Due.is(0, x.ship(7), s + "she herself is not LOST");
        BeachedShip y = almostLost();
        Ships.hours(y, 11);
        Due.is(95, y.ship(4), s + "WATER 95 to begin with");
        floatIs(y, s + "WATER 105", FLOAT_NONE);
        y.tide(12, 0);
        floatIs(y, s + "WATER 90", 13, 0, 13);
    }

    private static void noneIfASeamStaysOpen() {
        String s = "None, if HOUR 95 is not enough for a SEAM: ";
        BeachedShip x = lowTide();
        x.tide(95, 60);
        x.seam(5, 0, 6, 1, 50, 1);
        x.hour(1);
        x.rule(3, 5);
        floatIs(x, s + "5 MEN of 6", FLOAT_NONE);
        x.rule(3, 6);
        x.rule(4, 49);
        floatIs(x, s + "PITCH 49 of 50", FLOAT_NONE);
        x.rule(4, 50);
        floatIs(x, s + "both are there", 95, 0, 2);
        BeachedShip y = lowTide();
        y.seam(5, 0, 1, 1, 1, 1);
        y.hour(1);
        y.rule(4, 0);
        y.rule(1, 100);
        y.rule(0, 0);
        y.tide(50, 15);
        floatIs(y, s + "it is BARE and OPEN to the end, and behind it", FLOAT_NONE);
        y.rule(4, 1);
        floatIs(y, s + "its PITCH is there", 50, 0, 2);
    }

    private static void noneIfHour95IsNotEnough() {
        String s = "None, if HOUR 95 is not enough: ";
        BeachedShip x = lowTide();
        floatIs(x, s + "no TIDE", FLOAT_NONE);
        x.tide(95, 30);
        floatIs(x, s + "the last TIDE", 95, 0, 0);
        x.tide(95, 29);
        floatIs(x, s + "the last TIDE is too low", FLOAT_NONE);
        x.tide(95, 30);
        Ships.hours(x, 95);
        floatIs(x, s + "in HOUR 95", 95, 0, 95);
        x.hour(0);
        Due.is(1, x.ship(5), s + "she floats behind HOUR 95");
        floatIs(x, s + "behind HOUR 95", FLOAT_NONE);
        lastHours();
    }

    private static void lastHours() {
        String s = "None, if HOUR 95 is not enough: ";
        BeachedShip x = Ships.strong();
        Ships.tideAll(x, 60);
        x.heel(1);
        Ships.hours(x, 94);
        floatIs(x, s + "HEEL 1 in HOUR 94", 95, 0, 94);
        x.hour(0);
        floatIs(x, s + "HEEL 1 in HOUR 95", FLOAT_NONE);
        BeachedShip y = withOut(1, 1);
        y.rule(2, 401);
        Ships.hours(y, 93);
        floatIs(y, s + "a THING in HOUR 94", 95, 1, 94);
        y.hour(0);
        floatIs(y, s + "a THING in HOUR 95", FLOAT_NONE);
        BeachedShip z = new BeachedShip();
        Ships.tideAll(z, 60);
        z.tide(93, 0);
        z.tide(94, 0);
        z.seam(5, 0, 1, 1, 0, 1);
        Ships.hours(z, 93);
        z.hour(1);
        floatIs(z, s + "a SEAM in HOUR 94", 95, 0, 95);
        z.tide(94, 60);
        z.tide(95, 0);
        floatIs(z, s + "a SEAM in HOUR 95", FLOAT_NONE);
    }
}
