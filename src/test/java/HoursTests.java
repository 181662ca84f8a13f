/** Promises 13 to 16: what goes by HOURS. */
final class HoursTests {
    private static final int LEAST = Integer.MIN_VALUE;
    private static final int MOST = Integer.MAX_VALUE;

    private HoursTests() {
    }

    static void all() {
        promise13Move();
        promise13LyingOn();
        promise13Wrong();
        promise14Heel();
        promise14Holds();
        promise14Wrong();
        promise15Orders();
        promise15Work();
        promise15Pitch();
        promise15Water();
        promise15RopesPart();
        promise15MastsPart();
        promise15WorkAheadOfParting();
        promise15Edges();
        promise16Rig();
        promise16Holds();
        promise16Wrong();
    }

    private static void promise13Move() {
        BeachedShip x = new BeachedShip();
        x.thing(7, -1);
        x.thing(9, -1);
        Due.is(409, x.move(0), "P13 OUT: TOTAL then");
        Due.is(-2, x.move(0), "P13 THE BOAT was used");
        Due.is(-2, x.move(1), "P13 THE BOAT was used, another");
        Due.is(1, x.count(1), "P13 NO changes nothing");
        Due.is(1, x.book(3), "P13 moved");
        x.hour(0);
        Due.is(416, x.move(0), "P13 IN: TOTAL then");
        Due.is(-2, x.move(1), "P13 THE BOAT was used to come IN");
        Due.is(2, x.book(3), "P13 moved twice");
        x.hour(0);
        Due.is(407, x.move(1), "P13 another OUT");
        Ships.hours(x, 1);
        Due.is(416, x.move(1), "P13 IN again");
    }

    private static void promise13LyingOn() {
        BeachedShip x = new BeachedShip();
        x.thing(1, -1);
        x.thing(2, 0);
        x.thing(4, 0);
        x.thing(8, 2);
        int[] stays = {0, 2};
        for (int t : stays) {
            Due.is(-2, x.move(t), "P13 something IN lies on " + t);
        }
        Due.is(407, x.move(3), "P13 the topmost");
        x.hour(0);
        Due.is(-2, x.move(0), "P13 two lie on it");
        Due.is(403, x.move(2), "P13 what lies on it is OUT");
        x.hour(0);
        Due.is(-2, x.move(3), "P13 what it lies on is OUT");
        Due.is(-2, x.move(0), "P13 one of two is IN");
        Due.is(401, x.move(1), "P13 the other one");
        x.hour(0);
        Due.is(400, x.move(0), "P13 all on it are OUT");
        x.hour(0);
        for (int t = 1; t < 4; t++) {
            Due.is(-2, x.move(t), "P13 not ahead of what it lies on: " + t);
        }
        Due.is(401, x.move(0), "P13 the lowest comes IN");
        x.hour(0);
        Due.is(405, x.move(2), "P13 then what lies on it");
        Due.is(6, x.book(3), "P13 moved six times");
    }

    private static void promise13Wrong() {
        BeachedShip x = new BeachedShip();
        Due.is(-1, x.move(0), "P13 no THING");
        x.thing(1, -1);
        int[] bad = {-1, 1, 12, LEAST, MOST};
        for (int t : bad) {
            Due.is(-1, x.move(t), "P13 THING " + t);
        }
        x.move(0);
        Due.is(-1, x.move(1), "P13 BAD ahead of NO");
        BeachedShip y = Ships.lost();
        y.thing(1, -1);
        Due.is(-2, y.move(0), "P13 LOST");
        Due.is(-1, y.move(1), "P13 BAD ahead of LOST");
        Due.is(1, y.count(1), "P13 LOST changes nothing");
        BeachedShip z = new BeachedShip();
        z.thing(1, -1);
        Ships.hours(z, 96);
        Due.is(400, z.move(0), "P13 behind HOUR 95");
        Due.is(-2, z.move(0), "P13 behind HOUR 95 once");
    }

    private static void promise14Heel() {
        BeachedShip x = Ships.strong();
        for (int i = 1; i <= 9; i++) {
            Due.is(i, x.heel(1), "P14 up to " + i);
            Due.is(-102, x.heel(1), "P14 it went in this HOUR");
            Due.is(-102, x.heel(-1), "P14 it went in this HOUR, back");
            x.hour(0);
        }
        Due.is(-102, x.heel(1), "P14 beyond 9");
        for (int i = 8; i >= -9; i--) {
            Due.is(i, x.heel(-1), "P14 down to " + i);
            Due.is(i, x.ship(2), "P14 HEEL " + i);
            x.hour(0);
        }
        Due.is(-102, x.heel(-1), "P14 beyond -9");
        Due.is(-8, x.heel(1), "P14 NO does not use up the HOUR");
        x.hour(0);
        Due.is(-7, x.heel(1), "P14 back");
    }

    private static void promise14Holds() {
        BeachedShip x = new BeachedShip();
        Due.is(-102, x.heel(1), "P14 no TACKLE");
        Due.is(-102, x.heel(-1), "P14 no TACKLE, other side");
        x.tackle(0, 1, 79);
        Due.is(1, x.heel(1), "P14 40 of 79");
        x.hour(0);
        Due.is(-102, x.heel(1), "P14 80 of 79");
        x.rule(1, 399);
        Due.is(2, x.heel(1), "P14 79 of 79");
        x.hour(0);
        x.rain(2, true);
        Due.is(-102, x.heel(1), "P14 more in RAIN");
        Due.is(1, x.heel(-1), "P14 39 of 59 in RAIN");
        x.hour(0);
        x.rule(1, 1000);
        Due.is(0, x.heel(-1), "P14 to 0 HOLDS always");
        x.hour(0);
        x.rule(1, 400);
        x.rule(5, 39);
        Due.is(-102, x.heel(-1), "P14 MAST bears 39");
        x.rule(5, 40);
        Due.is(-1, x.heel(-1), "P14 MAST bears 40");
    }

    private static void promise14Wrong() {
        BeachedShip x = Ships.strong();
        int[] bad = {0, 2, -2, 9, LEAST, MOST};
        for (int by : bad) {
            Due.is(-100, x.heel(by), "P14 by " + by);
        }
        Due.is(-1, x.heel(-1), "P14 HEEL -1 is an answer");
        Due.is(-100, x.heel(0), "P14 BAD ahead of NO");
        BeachedShip y = Ships.lost();
        y.tackle(0, 6, 400);
        Due.is(-102, y.heel(1), "P14 LOST");
        Due.is(-100, y.heel(2), "P14 BAD ahead of LOST");
        Due.is(0, y.ship(2), "P14 LOST changes nothing");
    }

    private static BeachedShip lowTide(int men) {
        BeachedShip x = new BeachedShip();
        Ships.tideAll(x, 0);
        x.rule(3, men);
        return x;
    }

    private static void stateIs(BeachedShip x, String what, int... states) {
        for (int s = 0; s < states.length; s++) {
            Due.is(states[s], x.seamTold(s, 0), what + ": state of SEAM " + s);
        }
    }

    private static void promise15Orders() {
        BeachedShip x = lowTide(5);
        x.seam(5, 0, 3, 1, 0, 1);
        x.seam(5, 0, 3, 1, 0, 2);
        x.seam(5, 0, 2, 1, 0, 4);
        x.seam(5, 0, 1, 1, 0, 8);
        x.hour(15);
        stateIs(x, "P15 5 MEN: 3, then 2", 1, 0, 1, 0);
        Due.is(5, x.book(1), "P15 HOURS of MEN");
        x.hour(14);
        stateIs(x, "P15 3 for the second, 2 for the third", 1, 1, 2, 0);
        Due.is(10, x.book(1), "P15 HOURS of MEN, two HOURS");
        Due.is(4, x.book(4), "P15 WORTH of TIGHT ones");
        x.hour(15);
        stateIs(x, "P15 a TIGHT one needs no MEN", 2, 1, 2, 1);
        Due.is(14, x.book(1), "P15 HOURS of MEN, three HOURS");
        x.hour(0);
        stateIs(x, "P15 without ORDERS", 2, 1, 2, 1);
        x.rain(4, true);
        x.hour(15);
        stateIs(x, "P15 in RAIN", 2, 1, 2, 1);
        Due.is(0, x.ship(4), "P15 BARE ones do not flood in RAIN");
        x.tide(5, 20);
        x.hour(15);
        stateIs(x, "P15 not BARE", 2, 1, 2, 1);
        Due.is(20, x.ship(4), "P15 two OPEN ones flood");
        x.hour(15);
        stateIs(x, "P15 done", 2, 2, 2, 2);
        Due.is(18, x.book(1), "P15 HOURS of MEN in all");
        Due.is(15, x.book(4), "P15 WORTH in all");
    }

    private static void promise15Work() {
        BeachedShip x = lowTide(20);
        for (int hours = 1; hours <= 4; hours++) {
            x.seam(5, 0, 1, hours, 0, 1);
        }
        int[][] states = {{1, 1, 1, 1}, {2, 1, 1, 1}, {2, 2, 1, 1}, {2, 2, 2, 1}, {2, 2, 2, 2}};
        for (int h = 0; h < 5; h++) {
            x.hour(15);
            stateIs(x, "P15 behind HOUR " + h, states[h]);
        }
        Due.is(14, x.book(1), "P15 raking is work");
        BeachedShip y = lowTide(6);
        y.seam(5, 0, 6, 1, 0, 1);
        y.hour(1);
        stateIs(y, "P15 HANDS as many as MEN", 1);
        y.rule(3, 5);
        y.hour(1);
        stateIs(y, "P15 HANDS more than MEN", 1);
        Due.is(6, y.book(1), "P15 nothing was done");
        Due.is(1, y.count(5), "P15 one OPEN");
    }

    private static void promise15Pitch() {
        BeachedShip x = lowTide(4);
        x.rule(4, 19);
        x.seam(5, 0, 3, 2, 10, 1);
        x.seam(5, 0, 2, 1, 10, 1);
        x.seam(5, 0, 2, 1, 9, 1);
        x.hour(1);
        x.hour(6);
        Due.is(0, x.book(0), "P15 raking takes no PITCH");
        x.hour(1);
        Due.is(10, x.book(0), "P15 the first HOUR of work takes it");
        Due.is(9, x.book(5), "P15 PITCH that is left");
        x.hour(6);
        stateIs(x, "P15 10 are not there, 9 are", 1, 1, 2);
        Due.is(0, x.book(5), "P15 all of it");
        Due.is(3 + 4 + 3 + 2, x.book(1), "P15 MEN without PITCH are free");
        x.hour(3);
        stateIs(x, "P15 later HOURS take none", 2, 1, 2);
        Due.is(19, x.book(0), "P15 PITCH taken");
        Due.is(15, x.book(1), "P15 HOURS of MEN");
        BeachedShip y = lowTide(3);
        y.rule(4, 4);
        y.seam(5, 0, 2, 1, 5, 1);
        y.seam(5, 0, 2, 1, 4, 1);
        y.hour(1);
        y.hour(2);
        y.hour(3);
        stateIs(y, "P15 MEN freed go to the next", 1, 2);
        Due.is(0, y.seamTold(0, 2), "P15 nothing was done on it");
        y.rule(4, 5);
        y.hour(1);
        stateIs(y, "P15 PITCH came", 2, 2);
        Due.is(9, y.book(0), "P15 PITCH taken in all");
    }

    private static void promise15Water() {
        BeachedShip x = lowTide(20);
        x.seam(2, 0, 1, 1, 0, 1);
        x.seam(3, 0, 1, 1, 0, 1);
        x.seam(4, 0, 1, 1, 0, 1);
        Due.is(0, x.hour(7), "P15 all raked");
        int[] tide = {11, 8, 12, 7, 7, 60, 7, 7, 7, 7, 7, 7, 7, 7, 7, 7, 7};
        int[] water = {10, 20, 40, 35, 30, 60, 55, 50, 45, 40, 35, 30, 25, 20, 15, 10, 5};
        for (int i = 0; i < tide.length; i++) {
            x.tide(i + 1, tide[i]);
            Due.is(water[i], x.hour(0), "P15 WATER behind HOUR " + (i + 1));
        }
        Due.is(0, x.hour(0), "P15 pumped dry");
        Due.is(0, x.hour(0), "P15 not below 0");
        x.tide(x.count(7), 9);
        Due.is(10, x.hour(0), "P15 one floods: no pumps");
        Due.is(5, x.hour(7), "P15 the last HOUR of work: none OPEN, pumps");
        x.tide(x.count(7), 60);
        Due.is(0, x.hour(0), "P15 TIGHT ones do not flood");
    }

    /** HEEL 1 with FORCE 100, then ropes that the test's RAIN or HULL is too much for. */
    private static void promise15RopesPart() {
        BeachedShip x = new BeachedShip();
        for (int m = 0; m < 3; m++) {
            x.rule(5 + m, 1000);
        }
        x.rule(1, 100);
        x.tackle(0, 2, 40);
        x.tackle(1, 1, 60);
        x.tackle(2, 1, 52);
        x.tackle(2, 3, 24);
        x.heel(1);
        x.rule(1, 1000);
        Due.is(1, x.ship(6), "P15 FORCE 100 by four: 25 each");
        Due.is(0, x.hour(0), "P15 HOLDS: nothing parts");
        Due.is(4, x.count(3), "P15 all WHOLE");
        x.rain(1, true);
        x.rain(2, true);
        x.rig(3, false);
        Due.is(1, x.ship(6), "P15 34 each: 17 of 30, 34 of 45, 34 of 39");
        x.hour(0);
        Due.is(3, x.count(3), "P15 all three WHOLE");
        x.rule(1, 900);
        x.rig(2, false);
        Due.is(1, x.ship(6), "P15 45 each: 23 of 30, 45 of 45");
        x.rule(1, 920);
        x.hour(0);
        Due.is(0, x.tackleTold(1, 3), "P15 46 of 45 parts");
        Due.is(0, x.count(3), "P15 then 92 on one: 46 of 30 parts");
        Due.is(2, x.book(2), "P15 two PARTED; taken off is not");
        Due.is(0, x.ship(2), "P15 none WHOLE: HEEL 0");
        ropesPartInOrder();
    }

    private static void ropesPartInOrder() {
        BeachedShip x = new BeachedShip();
        x.rule(1, 100);
        x.tackle(0, 1, 20);
        x.tackle(0, 1, 10);
        x.tackle(1, 1, 10);
        x.tackle(1, 2, 200);
        x.heel(-1);
        x.rule(1, 600);
        x.rule(5, 0);
        x.hour(0);
        Due.is(0, x.tackleTold(1, 3), "P15 15 of 10 parts: most over, the lowest of two");
        Due.is(0, x.tackleTold(2, 3), "P15 20 of 10 parts");
        Due.is(0, x.tackleTold(0, 3), "P15 30 of 20 parts ahead of its MAST");
        Due.is(1, x.tackleTold(3, 3), "P15 60 by 2 is 30 of 200");
        Due.is(3, x.book(2), "P15 three PARTED");
        Due.is(-1, x.ship(2), "P15 HEEL stays");
        BeachedShip y = new BeachedShip();
        y.rule(1, 100);
        y.tackle(0, 1, 30);
        y.tackle(0, 1, 26);
        y.tackle(0, 1, 21);
        y.tackle(0, 2, 11);
        y.heel(1);
        y.rule(1, 1000);
        y.hour(0);
        Due.is(0, y.count(3), "P15 one after another: 25 of 21, 34 of 26, 50 of 30, 50 of 11");
        BeachedShip z = new BeachedShip();
        z.rule(1, 300);
        z.tackle(0, 1, 100);
        z.tackle(0, 1, 9);
        z.tackle(0, 1, 8);
        z.rig(1, false);
        z.rig(2, false);
        z.heel(1);
        z.tackle(0, 1, 9);
        z.hour(0);
        Due.is(1, z.count(3), "P15 15 of 9 parts, 30 of 100 HOLDS");
        Due.is(1, z.tackleTold(0, 3), "P15 the strong one stays");
        Due.is(1, z.book(2), "P15 one PARTED");
        Due.is(1, z.ship(2), "P15 HEEL HOLDS then");
        Due.is(30, z.tackleTold(0, 0), "P15 it takes all");
    }

    private static void promise15MastsPart() {
        BeachedShip x = new BeachedShip();
        x.rule(1, 400);
        x.tackle(2, 1, 400);
        x.tackle(1, 1, 400);
        x.tackle(1, 1, 400);
        x.tackle(0, 1, 400);
        x.heel(1);
        x.rule(6, 19);
        x.rule(7, 9);
        x.hour(0);
        Due.is(0, x.tackleTold(1, 3), "P15 MAST 1 is over with 20: its lowest");
        Due.is(0, x.tackleTold(0, 3), "P15 MAST 2 is over with 14");
        Due.is(0, x.tackleTold(2, 3), "P15 MAST 1 is over with 20 again");
        Due.is(1, x.tackleTold(3, 3), "P15 MAST 0 bears 40");
        Due.is(3, x.book(2), "P15 three PARTED");
        BeachedShip y = new BeachedShip();
        y.tackle(2, 1, 400);
        y.tackle(0, 1, 400);
        y.tackle(0, 1, 400);
        y.heel(1);
        y.rule(5, 27);
        y.rule(7, 13);
        y.hour(0);
        Due.is(0, y.tackleTold(1, 3), "P15 the lowest MAST first, though its TACKLE is no lower");
        Due.is(0, y.tackleTold(0, 3), "P15 then 20 on MAST 2");
        Due.is(0, y.count(3), "P15 then 40 on MAST 0");
        Due.is(0, y.ship(2), "P15 HEEL 0");
        BeachedShip z = new BeachedShip();
        z.tackle(0, 1, 400);
        z.tackle(1, 1, 400);
        z.heel(1);
        z.rule(6, 19);
        z.rule(5, 20);
        z.hour(0);
        Due.is(0, z.count(3), "P15 20 on MAST 1 of 19, then 40 on MAST 0 of 20");
        Due.is(2, z.book(2), "P15 two PARTED");
        mastsBeyondRopes();
    }

    private static void mastsBeyondRopes() {
        BeachedShip x = new BeachedShip();
        x.tackle(0, 1, 400);
        x.tackle(0, 1, 19);
        x.tackle(1, 1, 400);
        x.heel(1);
        x.rule(1, 600);
        x.rule(5, 35);
        x.hour(0);
        Due.is(0, x.tackleTold(1, 3), "P15 20 of 19: a rope parts ahead of MASTS");
        Due.is(1, x.tackleTold(0, 3), "P15 then MAST 0 bears 30 of 35");
        Due.is(1, x.book(2), "P15 one PARTED");
        Due.is(1, x.ship(2), "P15 HEEL stays");
        BeachedShip y = new BeachedShip();
        int[] masts = {1, 1, 0, 0, 2};
        for (int i = 0; i < masts.length; i++) {
            y.tackle(masts[i], 1, i == 1 ? 22 : 400);
        }
        y.heel(1);
        y.rule(1, 1000);
        y.rule(5, 39);
        y.rule(6, 39);
        y.hour(0);
        int[] whole = {1, 0, 0, 1, 1};
        for (int i = 0; i < whole.length; i++) {
            Due.is(whole[i], y.tackleTold(i, 3), "P15 the lowest MAST first, then 25 of 22: TACKLE " + i);
        }
        ropeOfTackle0AheadOfMasts();
    }

    private static void ropeOfTackle0AheadOfMasts() {
        BeachedShip x = new BeachedShip();
        int[] masts = {0, 1, 1, 2, 2};
        int[] strengths = {19, 400, 22, 400, 400};
        for (int i = 0; i < masts.length; i++) {
            x.tackle(masts[i], 1, strengths[i]);
        }
        x.heel(1);
        x.rule(1, 1000);
        x.rule(6, 39);
        x.hour(0);
        int[] whole = {0, 1, 0, 1, 1};
        for (int i = 0; i < whole.length; i++) {
            Due.is(whole[i], x.tackleTold(i, 3), "P15 20 of 19, then 25 of 22, then MAST 1 bears 34: TACKLE " + i);
        }
    }

    private static void promise15WorkAheadOfParting() {
        BeachedShip x = new BeachedShip();
        x.tackle(0, 1, 50);
        x.seam(9, 0, 1, 1, 0, 1);
        x.seam(9, 1, 1, 1, 0, 1);
        x.tide(0, 33);
        x.tide(1, 38);
        x.tide(2, 36);
        Due.is(1, x.heel(1), "P15 HEEL 1");
        x.hour(2);
        stateIs(x, "P15 not BARE by HEEL", 0, 0);
        x.rain(1, false);
        x.rule(1, 510);
        Due.is(0, x.hour(1), "P15 BARE as HEEL was in this HOUR: worked, no WATER");
        stateIs(x, "P15 raked", 1, 0);
        Due.is(0, x.ship(2), "P15 then the rope parts");
        Due.is(10, x.hour(1), "P15 HEEL 0: 36 of 36 floods");
        stateIs(x, "P15 not BARE any more", 1, 0);
    }

    private static void promise15Edges() {
        BeachedShip x = new BeachedShip();
        int[] bad = {1, 2, -1, LEAST, MOST};
        for (int o : bad) {
            Due.is(-1, x.hour(o), "P15 no SEAM " + o);
        }
        Due.is(0, x.count(7), "P15 BAD changes nothing");
        for (int s = 0; s < 12; s++) {
            Due.is(0, x.hour((1 << s) - 1), "P15 all of " + s);
            Due.is(-1, x.hour(1 << s), "P15 one beyond " + s);
            x.seam(1, 0, 1, 1, 0, 1);
        }
        Due.is(0, x.hour(4095), "P15 all of twelve");
        Due.is(-1, x.hour(4096), "P15 beyond twelve");
        Due.is(-1, x.hour(LEAST), "P15 the highest bit");
        Due.is(13, x.count(7), "P15 HOURS that went by");
        BeachedShip y = new BeachedShip();
        Ships.hours(y, 95);
        Due.is(95, y.count(7), "P15 HOUR 95");
        Due.is(0, y.hour(0), "P15 HOUR 95 goes by");
        Due.is(-2, y.hour(0), "P15 behind HOUR 95");
        Due.is(-1, y.hour(1), "P15 BAD ahead of NO");
        Due.is(96, y.count(7), "P15 NO changes nothing");
        BeachedShip z = Ships.lost();
        int hour = z.count(7);
        Due.is(-2, z.hour(0), "P15 LOST");
        Due.is(-2, z.hour(3), "P15 LOST, with ORDERS");
        Due.is(-1, z.hour(4), "P15 BAD ahead of LOST");
        Due.is(hour, z.count(7), "P15 LOST: no HOUR goes by");
        Due.is(110, z.ship(4), "P15 LOST: WATER stays");
    }

    private static void promise16Rig() {
        BeachedShip x = new BeachedShip();
        x.tackle(0, 1, 50);
        Due.is(1, x.rig(0, true), "P16 WHOLE as it was");
        Due.is(1, x.rig(0, false), "P16 taken off");
        Due.is(0, x.count(3), "P16 none WHOLE");
        Due.is(0, x.rig(0, false), "P16 off as it was");
        Due.is(0, x.rig(0, true), "P16 new");
        Due.is(1, x.count(3), "P16 one WHOLE");
        Due.is(0, x.book(2), "P16 none PARTED");
        x.heel(1);
        x.rule(1, 1000);
        x.hour(0);
        Due.is(1, x.book(2), "P16 it PARTED");
        Due.is(0, x.rig(0, true), "P16 WHOLE again");
        Due.is(50, x.tackleTold(0, 2), "P16 as strong as it was");
        Due.is(1, x.book(2), "P16 it has PARTED all the same");
        BeachedShip y = Ships.lost();
        y.tackle(0, 1, 1);
        Due.is(1, y.rig(0, false), "P16 LOST does not matter");
        Due.is(0, y.rig(0, true), "P16 LOST does not matter");
    }

    private static void promise16Holds() {
        BeachedShip x = new BeachedShip();
        x.tackle(0, 1, 50);
        x.tackle(1, 1, 52);
        x.tackle(2, 1, 39);
        x.rig(2, false);
        x.heel(-1);
        Due.is(1, x.rig(0, false), "P16 40 of 52");
        Due.is(-2, x.rig(1, false), "P16 the last one");
        Due.is(1, x.tackleTold(1, 3), "P16 NO changes nothing");
        Due.is(0, x.rig(0, true), "P16 again");
        x.rain(0, true);
        Due.is(-2, x.rig(1, false), "P16 40 of 37 in RAIN");
        Due.is(-2, x.rig(0, false), "P16 40 of 39 in RAIN");
        x.rain(0, false);
        x.rule(6, 40);
        Due.is(1, x.rig(0, false), "P16 40 on MAST 1 of 40");
        Due.is(0, x.rig(0, true), "P16 20 each");
        x.rule(5, 13);
        x.rule(6, 20);
        x.rule(7, 20);
        Due.is(-2, x.rig(0, true), "P16 it does not HOLD as it is");
        Due.is(-2, x.rig(0, false), "P16 nor with 40 on MAST 1");
        x.rule(5, 14);
        Due.is(0, x.rig(2, true), "P16 it HOLDS with one more");
        x.rule(6, 13);
        Due.is(-2, x.rig(2, false), "P16 not with one less");
        Due.is(3, x.count(3), "P16 three WHOLE");
        BeachedShip y = new BeachedShip();
        y.tackle(0, 1, 100);
        y.tackle(1, 1, 19);
        y.rig(1, false);
        y.heel(1);
        Due.is(-2, y.rig(1, true), "P16 a weak one would not HOLD: 20 of 19");
        Due.is(0, y.tackleTold(1, 3), "P16 NO changes nothing");
        y.rule(1, 380);
        Due.is(0, y.rig(1, true), "P16 19 of 19");
    }

    private static void promise16Wrong() {
        BeachedShip x = new BeachedShip();
        Due.is(-1, x.rig(0, true), "P16 no TACKLE");
        x.tackle(0, 1, 50);
        int[] bad = {-1, 1, 6, LEAST, MOST};
        for (int t : bad) {
            Due.is(-1, x.rig(t, true), "P16 TACKLE " + t);
            Due.is(-1, x.rig(t, false), "P16 TACKLE " + t + " off");
        }
        Due.is(1, x.count(3), "P16 BAD changes nothing");
    }
}
