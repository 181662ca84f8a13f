/** Promises 9 to 12: what is told of her, her TACKLES and her SEAMS. */
final class TellingTests {
    private static final int LEAST = Integer.MIN_VALUE;
    private static final int MOST = Integer.MAX_VALUE;

    private TellingTests() {
    }

    static void all() {
        promise9Weights();
        promise9Force();
        promise9Floats();
        promise9FloatsBySeams();
        promise9Holds();
        promise9WaterAndLost();
        promise10TackleTold();
        promise10NotWhole();
        promise10Wrong();
        promise11ByRopes();
        promise11ByMasts();
        promise11Edges();
        promise12Bare();
        promise12HoursBare();
        promise12Work();
        promise12Wrong();
    }

    private static void promise9Weights() {
        BeachedShip x = new BeachedShip();
        int[] bad = {-1, 8, 9, LEAST, MOST};
        for (int what : bad) {
            Due.is(-100, x.ship(what), "P9 BAD " + what);
        }
        x.rule(1, 359);
        Due.is(17, x.ship(1), "P9 DRAUGHT is cut");
        x.thing(1, -1);
        x.thing(20, 0);
        Due.is(380, x.ship(0), "P9 TOTAL");
        Due.is(19, x.ship(1), "P9 DRAUGHT");
        x.move(1);
        Due.is(360, x.ship(0), "P9 TOTAL less what is OUT");
        Due.is(18, x.ship(1), "P9 DRAUGHT less what is OUT");
    }

    private static void promise9Force() {
        BeachedShip x = Ships.strong();
        x.rule(1, 455);
        int[] force = {0, 45, 91, 136, 182, 227, 273, 318, 364, 409};
        for (int size = 1; size <= 9; size++) {
            Due.is(size, x.heel(1), "P9 to HEEL " + size);
            Due.is(size, x.ship(2), "P9 HEEL " + size);
            Due.is(force[size], x.ship(3), "P9 FORCE of " + size);
            x.hour(0);
        }
        BeachedShip y = Ships.strong();
        y.rule(1, 455);
        for (int size = 1; size <= 9; size++) {
            Due.is(-size, y.heel(-1), "P9 to HEEL -" + size);
            Due.is(-size, y.ship(2), "P9 HEEL -" + size);
            Due.is(force[size], y.ship(3), "P9 FORCE of -" + size);
            y.hour(0);
        }
    }

    private static void promise9Floats() {
        BeachedShip x = Ships.strong();
        Due.is(1, x.ship(5), "P9 she floats: 20 and 10 of 30");
        x.tide(0, 29);
        Due.is(0, x.ship(5), "P9 TIDE 29");
        x.tide(0, 30);
        x.thing(20, -1);
        Due.is(0, x.ship(5), "P9 DRAUGHT 21");
        x.tide(0, 31);
        Due.is(1, x.ship(5), "P9 TIDE 31");
        x.rule(2, 420);
        Due.is(1, x.ship(5), "P9 BALLAST as TOTAL");
        x.rule(2, 421);
        Due.is(0, x.ship(5), "P9 BALLAST above TOTAL");
        x.rule(2, 0);
        x.heel(-1);
        Due.is(0, x.ship(5), "P9 HEEL -1");
        x.tide(1, 31);
        x.hour(0);
        x.heel(1);
        Due.is(1, x.ship(5), "P9 HEEL 0 again");
        x.hour(0);
        Due.is(0, x.ship(5), "P9 TIDE of the next HOUR");
    }

    private static void promise9FloatsBySeams() {
        BeachedShip x = new BeachedShip();
        x.tide(0, 0);
        x.tide(2, 0);
        x.seam(5, 0, 1, 1, 0, 1);
        x.seam(5, 0, 1, 1, 0, 1);
        x.hour(1);
        Due.is(0, x.ship(5), "P9 a SEAM is OPEN");
        x.hour(0);
        x.hour(1);
        Due.is(1, x.ship(5), "P9 TIGHT and OLD ones do not matter");
    }

    private static void promise9Holds() {
        BeachedShip x = new BeachedShip();
        x.tackle(0, 1, 50);
        x.heel(1);
        Due.is(40, x.ship(3), "P9 FORCE 40");
        Due.is(1, x.ship(6), "P9 40 of 50");
        x.rain(0, true);
        Due.is(0, x.ship(6), "P9 40 of 37 in RAIN");
        x.rain(0, false);
        x.rain(1, true);
        Due.is(1, x.ship(6), "P9 RAIN of another HOUR");
        x.rule(5, 40);
        Due.is(1, x.ship(6), "P9 MAST bears 40");
        x.rule(5, 39);
        Due.is(0, x.ship(6), "P9 MAST bears 39");
        x.rule(6, 0);
        x.rule(7, 0);
        x.rule(5, 40);
        Due.is(1, x.ship(6), "P9 other MASTS do not matter");
        x.rule(5, 1000);
        x.rule(1, 509);
        Due.is(1, x.ship(6), "P9 FORCE 50 of 50");
        x.rule(1, 510);
        Due.is(0, x.ship(6), "P9 FORCE 51 of 50");
        BeachedShip y = new BeachedShip();
        y.rain(0, true);
        y.rule(5, 0);
        Due.is(1, y.ship(6), "P9 FORCE 0 HOLDS without TACKLES");
    }

    private static void promise9WaterAndLost() {
        BeachedShip x = new BeachedShip();
        Ships.tideAll(x, 60);
        x.tide(0, 0);
        x.seam(1, 0, 1, 1, 0, 1);
        x.hour(1);
        for (int i = 1; i <= 10; i++) {
            Due.is(10 * i, x.hour(0), "P9 WATER by hour");
            Due.is(10 * i, x.ship(4), "P9 WATER");
            Due.is(0, x.ship(7), "P9 not LOST yet");
        }
        Due.is(110, x.hour(0), "P9 WATER 110");
        Due.is(1, x.ship(7), "P9 LOST");
        Due.is(0, x.ship(5), "P9 does not float");
        Due.is(12, x.count(7), "P9 that HOUR went by");
    }

    private static void promise10TackleTold() {
        BeachedShip x = new BeachedShip();
        x.rule(1, 500);
        x.tackle(0, 3, 399);
        x.tackle(1, 4, 1);
        x.tackle(2, 6, 250);
        x.tackle(2, 1, 17);
        for (int t = 0; t < 4; t++) {
            Due.is(0, x.tackleTold(t, 0), "P10 takes nothing at HEEL 0");
            Due.is(0, x.tackleTold(t, 1), "P10 rope takes nothing at HEEL 0");
        }
        x.rig(1, false);
        x.rig(3, false);
        x.heel(-1);
        int[][] want = {{25, 9, 399, 1}, {0, 0, 0, 0}, {25, 5, 250, 1}, {0, 0, 0, 0}};
        toldAs(x, want, "P10 two WHOLE");
        x.rule(1, 510);
        want[0][0] = 26;
        want[2][0] = 26;
        toldAs(x, want, "P10 51 by two, rounded up");
        x.rain(0, true);
        want[0][2] = 299;
        want[2][2] = 187;
        toldAs(x, want, "P10 in RAIN");
        x.hour(0);
        want[0][2] = 399;
        want[2][2] = 250;
        toldAs(x, want, "P10 dry again");
    }

    private static void toldAs(BeachedShip x, int[][] want, String what) {
        for (int t = 0; t < want.length; t++) {
            for (int w = 0; w < 4; w++) {
                Due.is(want[t][w], x.tackleTold(t, w), what + ": " + t + ", " + w);
            }
        }
    }

    private static void promise10NotWhole() {
        BeachedShip x = new BeachedShip();
        x.tackle(0, 1, 3);
        Due.is(3, x.tackleTold(0, 2), "P10 STRENGTH 3");
        x.rain(0, true);
        Due.is(2, x.tackleTold(0, 2), "P10 STRENGTH 3 in RAIN");
        x.rig(0, false);
        for (int w = 0; w < 4; w++) {
            Due.is(0, x.tackleTold(0, w), "P10 0 for all");
        }
    }

    private static void promise10Wrong() {
        BeachedShip x = new BeachedShip();
        Due.is(-1, x.tackleTold(0, 0), "P10 no TACKLE");
        x.tackle(0, 1, 1);
        x.tackle(0, 1, 1);
        x.rig(1, false);
        int[] badTackles = {-1, 2, 6, LEAST, MOST};
        for (int t : badTackles) {
            Due.is(-1, x.tackleTold(t, 0), "P10 TACKLE " + t);
        }
        int[] badWhat = {-1, 4, LEAST, MOST};
        for (int w : badWhat) {
            Due.is(-1, x.tackleTold(0, w), "P10 what " + w);
            Due.is(-1, x.tackleTold(1, w), "P10 what, not WHOLE, " + w);
        }
    }

    private static void promise11ByRopes() {
        BeachedShip x = new BeachedShip();
        Due.is(0, x.greatest(false), "P11 no TACKLE");
        Due.is(0, x.greatest(true), "P11 no TACKLE in RAIN");
        x.rule(5, 1000);
        x.tackle(0, 2, 60);
        Due.is(3, x.greatest(false), "P11 120 by 2 is 60");
        Due.is(2, x.greatest(true), "P11 80 by 2 is 40 of 45");
        x.rain(0, true);
        Due.is(3, x.greatest(false), "P11 the HOUR's RAIN does not matter");
        Due.is(2, x.greatest(true), "P11 the HOUR's RAIN does not matter");
        x.rain(0, false);
        x.tackle(0, 1, 80);
        Due.is(4, x.greatest(false), "P11 160 by two is 80");
        x.rig(0, false);
        Due.is(2, x.greatest(false), "P11 one that is not WHOLE");
        x.rig(0, true);
        x.heel(1);
        Due.is(4, x.greatest(false), "P11 HEEL as it is does not matter");
    }

    private static void promise11ByMasts() {
        BeachedShip x = new BeachedShip();
        for (int m = 0; m < 3; m++) {
            x.tackle(m, 6, 400);
        }
        Due.is(9, x.greatest(false), "P11 120 each of 200");
        x.rule(6, 119);
        Due.is(8, x.greatest(false), "P11 MAST 1 bears 119");
        x.rule(7, 53);
        Due.is(3, x.greatest(false), "P11 MAST 2 bears 53: of 54 at 4 too little");
        x.rule(5, 39);
        Due.is(2, x.greatest(false), "P11 MAST 0 bears 39");
        x.tackle(0, 6, 400);
        Due.is(1, x.greatest(true), "P11 two on MAST 0: 20 each at 2, 10 each at 1");
        x.rule(5, 40);
        Due.is(2, x.greatest(true), "P11 two on MAST 0 of 40");
    }

    private static void promise11Edges() {
        BeachedShip x = Ships.strong();
        Due.is(9, x.greatest(false), "P11 9 at most");
        Due.is(9, x.greatest(true), "P11 9 at most in RAIN");
        for (int m = 0; m < 3; m++) {
            x.rule(5 + m, 0);
        }
        Due.is(0, x.greatest(false), "P11 MASTS that bear nothing");
        Due.is(0, x.count(7), "P11 changes nothing");
        Due.is(6, x.count(3), "P11 changes nothing");
        Due.is(0, x.ship(2), "P11 changes nothing");
    }

    private static void promise12Bare() {
        for (int heel = -9; heel <= 9; heel++) {
            BeachedShip x = Ships.strong();
            for (int strake = 1; strake <= 10; strake++) {
                if (strake % 3 != 0) {
                    x.seam(strake, 0, 1, 1, 0, 1);
                }
            }
            x.seam(4, 1, 1, 1, 0, 1);
            x.seam(9, 1, 1, 1, 0, 1);
            Ships.heelTo(x, heel);
            int hour = x.count(7);
            int[] edge = {4 + 3 * heel, 8 + 3 * heel, 16 + 3 * heel, 20 + 3 * heel, 28 + 3 * heel, 32 + 3 * heel,
                40 + 3 * heel, 16 - 3 * heel, 36 - 3 * heel};
            for (int s = 0; s < edge.length; s++) {
                if (edge[s] >= 0 && edge[s] <= 60) {
                    x.tide(hour, edge[s]);
                    Due.is(0, x.seamTold(s, 1), "P12 not BARE, HEEL " + heel + ", SEAM " + s);
                }
                if (edge[s] >= 1 && edge[s] <= 61) {
                    x.tide(hour, edge[s] - 1);
                    Due.is(1, x.seamTold(s, 1), "P12 BARE, HEEL " + heel + ", SEAM " + s);
                }
                x.tide(hour, edge[s] < 0 ? 0 : 60);
                Due.is(edge[s] > 60 ? 1 : 0, x.seamTold(s, 1), "P12 far off, HEEL " + heel + ", SEAM " + s);
            }
        }
    }

    private static void promise12HoursBare() {
        BeachedShip x = new BeachedShip();
        x.seam(5, 0, 1, 1, 0, 1);
        x.seam(5, 1, 1, 1, 0, 1);
        Due.is(0, x.seamTold(0, 3), "P12 not BARE now");
        x.tide(0, 19);
        Due.is(1, x.seamTold(0, 3), "P12 one HOUR");
        x.tide(1, 0);
        x.tide(2, 19);
        x.tide(4, 0);
        Due.is(3, x.seamTold(0, 3), "P12 three HOURS, then a break");
        x.rain(1, true);
        Due.is(3, x.seamTold(1, 3), "P12 RAIN is no break");
        x.hour(0);
        Due.is(2, x.seamTold(0, 3), "P12 from this HOUR on");
        Ships.hours(x, 2);
        Due.is(0, x.seamTold(0, 3), "P12 in the break");
        x.hour(0);
        Due.is(1, x.seamTold(0, 3), "P12 behind the break");
        BeachedShip y = new BeachedShip();
        y.seam(10, 0, 1, 1, 0, 1);
        Due.is(96, y.seamTold(0, 3), "P12 to HOUR 95");
        Ships.hours(y, 95);
        Due.is(1, y.seamTold(0, 3), "P12 HOUR 95 alone");
    }

    private static void promise12Work() {
        BeachedShip x = new BeachedShip();
        Ships.tideAll(x, 0);
        x.seam(5, 0, 2, 3, 4, 9);
        int[] state = {1, 1, 1, 2, 2};
        int[] done = {0, 1, 2, 3, 3};
        for (int i = 0; i < state.length; i++) {
            x.hour(1);
            Due.is(state[i], x.seamTold(0, 0), "P12 state behind HOUR " + i);
            Due.is(done[i], x.seamTold(0, 2), "P12 done behind HOUR " + i);
        }
    }

    private static void promise12Wrong() {
        BeachedShip x = new BeachedShip();
        Due.is(-1, x.seamTold(0, 0), "P12 no SEAM");
        x.seam(5, 0, 2, 3, 4, 9);
        int[] badSeams = {-1, 1, 12, LEAST, MOST};
        for (int s : badSeams) {
            Due.is(-1, x.seamTold(s, 0), "P12 SEAM " + s);
        }
        int[] badWhat = {-1, 4, LEAST, MOST};
        for (int w : badWhat) {
            Due.is(-1, x.seamTold(0, w), "P12 what " + w);
        }
    }
}
