/** Promises 17 to 19: THE PLAN, its ORDERS, and TO FLOAT. */
final class PlansTests {
    private static final int LEAST = Integer.MIN_VALUE;
    private static final int MOST = Integer.MAX_VALUE;

    private PlansTests() {
    }

    static void all() {
        promise17OneSeam();
        promise17GreatestWorth();
        promise17LeastPitch();
        promise17LeastBits();
        promise17LeastBeginnings();
        promise17Breaks();
        promise17Men();
        promise17Open();
        promise17FirstFive();
        promise17ByHeel();
        promise17Edges();
        promise18Orders();
        promise18Wrong();
        promise19NothingToDo();
        promise19Heel();
        promise19Seams();
        promise19SeamsThatStayOpen();
        promise19TrialLosesHer();
        promise19TrialParts();
        promise19Things();
        promise19ThingsLyingOn();
        promise19TooManyOut();
        promise19Edges();
    }

    private static BeachedShip lowTide(int men) {
        BeachedShip x = new BeachedShip();
        Ships.tideAll(x, 0);
        x.rule(3, men);
        return x;
    }

    private static void planIs(BeachedShip x, int n, int worth, int pitch, int bits, String what) {
        Due.is(worth, x.plan(n, 0), what + ": WORTH for " + n);
        Due.is(pitch, x.plan(n, 1), what + ": PITCH for " + n);
        Due.is(bits, x.plan(n, 2), what + ": SEAMS for " + n);
    }

    private static void beginningsAre(BeachedShip x, int n, String what, int... begins) {
        for (int s = 0; s < begins.length; s++) {
            Due.is(begins[s], x.plan(n, 3 + s), what + ": beginning of " + s);
        }
    }

    private static void ordersAre(BeachedShip x, String what, int... orders) {
        for (int i = 0; i < orders.length; i++) {
            Due.is(orders[i], x.orders(orders.length, i), what + ": ORDERS of " + i);
        }
    }

    private static void promise17OneSeam() {
        BeachedShip x = lowTide(10);
        for (int n = 1; n <= 6; n++) {
            planIs(x, n, 0, 0, 0, "P17 no SEAM");
        }
        x.seam(5, 0, 4, 2, 10, 9);
        planIs(x, 1, 0, 0, 0, "P17 too few HOURS");
        planIs(x, 2, 0, 0, 0, "P17 too few HOURS");
        Due.is(-4, x.plan(2, 3), "P17 not in it");
        for (int n = 3; n <= 6; n++) {
            planIs(x, n, 9, 10, 1, "P17 raked and done");
            Due.is(0, x.plan(n, 3), "P17 begins now");
        }
        Due.is(0, x.seamTold(0, 0), "P17 a PLAN changes nothing");
        Due.is(0, x.count(7), "P17 a PLAN changes nothing");
        Due.is(100, x.book(5), "P17 a PLAN changes nothing");
        x.tide(0, 30);
        planIs(x, 3, 0, 0, 0, "P17 not BARE at first");
        planIs(x, 4, 9, 10, 1, "P17 BARE from 1 on");
        Due.is(1, x.plan(4, 3), "P17 begins at 1");
        x.seam(5, 0, 1, 4, 0, 100);
        planIs(x, 5, 9, 10, 1, "P17 the other needs five of four");
        planIs(x, 6, 109, 10, 3, "P17 five of five");
    }

    private static void promise17GreatestWorth() {
        BeachedShip x = lowTide(6);
        x.seam(5, 0, 4, 1, 1, 10);
        x.seam(5, 0, 3, 1, 2, 6);
        x.seam(5, 0, 3, 1, 4, 5);
        planIs(x, 2, 11, 6, 6, "P17 two small ones");
        beginningsAre(x, 2, "P17 two small ones", -4, 0, 0);
        planIs(x, 3, 11, 6, 6, "P17 no HOURS for more");
        planIs(x, 4, 21, 7, 7, "P17 all");
        beginningsAre(x, 4, "P17 all", 0, 2, 2);
        beginningsAre(x, 6, "P17 all, with time", 0, 2, 2);
        x.rule(4, 7);
        planIs(x, 4, 21, 7, 7, "P17 PITCH 7 for all");
        x.rule(4, 6);
        planIs(x, 4, 16, 3, 3, "P17 PITCH 6 for two");
        x.rule(4, 2);
        planIs(x, 4, 10, 1, 1, "P17 PITCH 2 for one");
        x.rule(4, 0);
        planIs(x, 6, 0, 0, 0, "P17 no PITCH");
        BeachedShip y = lowTide(6);
        y.rule(4, 40);
        y.seam(5, 0, 1, 1, 30, 10);
        y.seam(5, 0, 1, 1, 20, 6);
        y.seam(5, 0, 1, 1, 20, 5);
        planIs(y, 6, 11, 40, 6, "P17 PITCH for two small ones");
        y.rule(4, 39);
        planIs(y, 6, 10, 30, 1, "P17 PITCH for the great one alone");
        y.rule(4, 70);
        planIs(y, 6, 21, 70, 7, "P17 PITCH for all, just so");
    }

    private static void promise17LeastPitch() {
        BeachedShip x = lowTide(6);
        x.seam(5, 0, 6, 1, 10, 5);
        x.seam(5, 0, 6, 1, 9, 5);
        x.seam(5, 0, 6, 1, 9, 5);
        planIs(x, 2, 5, 9, 2, "P17 least PITCH, then least bits");
        planIs(x, 3, 5, 9, 2, "P17 no HOURS for more");
        planIs(x, 4, 10, 18, 6, "P17 two of least PITCH");
        beginningsAre(x, 4, "P17 two of least PITCH", -4, 0, 2);
        planIs(x, 6, 15, 28, 7, "P17 three");
        beginningsAre(x, 6, "P17 three", 0, 2, 4);
        BeachedShip y = lowTide(3);
        y.seam(5, 0, 3, 1, 8, 6);
        y.seam(5, 0, 1, 1, 4, 3);
        y.seam(5, 0, 1, 1, 3, 3);
        planIs(y, 2, 6, 7, 6, "P17 least PITCH ahead of least bits");
        BeachedShip z = lowTide(3);
        z.seam(5, 0, 3, 1, 7, 6);
        z.seam(5, 0, 1, 1, 4, 3);
        z.seam(5, 0, 1, 1, 3, 3);
        planIs(z, 2, 6, 7, 1, "P17 least bits ahead of more SEAMS");
    }

    private static void promise17LeastBits() {
        BeachedShip x = lowTide(4);
        for (int i = 0; i < 4; i++) {
            x.seam(5, 0, 2, 1, 3, 7);
        }
        planIs(x, 2, 14, 6, 3, "P17 the lowest two");
        planIs(x, 4, 28, 12, 15, "P17 all four");
        beginningsAre(x, 4, "P17 all four", 0, 0, 2, 2);
        BeachedShip y = lowTide(6);
        y.seam(5, 0, 1, 1, 0, 3);
        y.seam(5, 0, 5, 1, 0, 5);
        y.seam(5, 0, 5, 1, 0, 3);
        y.seam(5, 0, 1, 1, 0, 5);
        planIs(y, 2, 10, 0, 10, "P17 5 and 5");
        y.seam(5, 0, 1, 1, 0, 2);
        planIs(y, 2, 10, 0, 10, "P17 bits 10 and not 25");
    }

    private static void promise17LeastBeginnings() {
        BeachedShip x = lowTide(4);
        x.seam(10, 0, 4, 1, 0, 5);
        x.seam(5, 0, 4, 1, 0, 5);
        x.tide(2, 30);
        x.tide(3, 30);
        planIs(x, 4, 10, 0, 3, "P17 the first waits for the second");
        beginningsAre(x, 4, "P17 the first waits for the second", 2, 0);
        beginningsAre(x, 6, "P17 the second may wait for the first", 0, 4);
        BeachedShip y = lowTide(4);
        y.seam(5, 0, 2, 2, 0, 5);
        y.seam(5, 0, 3, 1, 0, 5);
        y.seam(5, 0, 2, 1, 0, 5);
        planIs(y, 5, 15, 0, 7, "P17 three in five HOURS");
        beginningsAre(y, 5, "P17 three in five HOURS", 0, 3, 0);
        ordersAre(y, "P17 three in five HOURS", 5, 5, 1, 2, 2);
        BeachedShip z = lowTide(4);
        z.seam(5, 0, 3, 1, 0, 5);
        z.seam(5, 0, 2, 2, 0, 5);
        z.seam(5, 0, 2, 1, 0, 5);
        planIs(z, 5, 15, 0, 7, "P17 three in five HOURS, turned");
        beginningsAre(z, 5, "P17 three in five HOURS, turned", 0, 2, 2);
    }

    private static void promise17Breaks() {
        BeachedShip x = lowTide(10);
        x.seam(5, 0, 1, 1, 0, 1);
        x.rain(1, true);
        planIs(x, 3, 0, 0, 0, "P17 RAIN breaks it");
        planIs(x, 4, 1, 0, 1, "P17 behind the RAIN");
        Due.is(2, x.plan(4, 3), "P17 begins behind the RAIN");
        x.rain(1, false);
        x.tide(1, 20);
        planIs(x, 3, 0, 0, 0, "P17 a high TIDE breaks it");
        Due.is(2, x.plan(4, 3), "P17 begins behind it");
        x.tide(1, 19);
        Due.is(0, x.plan(4, 3), "P17 BARE by one");
        x.tide(3, 20);
        x.hour(0);
        Due.is(0, x.plan(2, 3), "P17 from now on: HOURS 1 and 2");
        x.hour(0);
        Due.is(-4, x.plan(3, 3), "P17 from now on: HOUR 2, 3 and 4");
        Due.is(2, x.plan(4, 3), "P17 from now on: HOURS 4 and 5");
    }

    private static void promise17Men() {
        BeachedShip x = lowTide(9);
        x.seam(5, 0, 5, 1, 0, 3);
        x.seam(5, 0, 5, 1, 0, 3);
        planIs(x, 2, 3, 0, 1, "P17 10 HANDS of 9 MEN");
        Due.is(2, x.plan(4, 4), "P17 one after the other");
        x.rule(3, 10);
        planIs(x, 2, 6, 0, 3, "P17 10 HANDS of 10 MEN");
        Due.is(0, x.plan(4, 4), "P17 both at once");
        x.rule(3, 4);
        planIs(x, 6, 0, 0, 0, "P17 5 HANDS of 4 MEN");
        BeachedShip y = lowTide(20);
        for (int i = 0; i < 5; i++) {
            y.seam(5, 0, 6, 1, 0, 1);
        }
        planIs(y, 2, 3, 0, 7, "P17 18 HANDS of 20 MEN");
        planIs(y, 3, 3, 0, 7, "P17 18 HANDS of 20 MEN");
        planIs(y, 4, 5, 0, 31, "P17 the others later");
        beginningsAre(y, 4, "P17 the others later", 0, 0, 0, 2, 2);
        y.rule(3, 1);
        planIs(y, 6, 0, 0, 0, "P17 one man");
        BeachedShip z = lowTide(1);
        for (int i = 0; i < 5; i++) {
            z.seam(5, 0, 1, 1, 0, 1);
        }
        planIs(z, 6, 3, 0, 7, "P17 one man, three SEAMS");
        beginningsAre(z, 6, "P17 one man, three SEAMS", 0, 2, 4, -4, -4);
    }

    private static void promise17Open() {
        BeachedShip x = lowTide(4);
        x.rule(4, 20);
        x.seam(5, 0, 2, 3, 12, 8);
        x.seam(5, 0, 2, 1, 10, 8);
        planIs(x, 4, 8, 10, 2, "P17 OLD: PITCH 20 for one");
        x.hour(1);
        planIs(x, 2, 8, 10, 2, "P17 OPEN, three HOURS lack");
        planIs(x, 3, 8, 10, 2, "P17 either of them");
        x.hour(1);
        Due.is(8, x.book(5), "P17 PITCH left");
        planIs(x, 1, 0, 0, 0, "P17 OPEN, two HOURS lack");
        planIs(x, 2, 8, 0, 1, "P17 its PITCH has been taken");
        x.rule(4, 10);
        planIs(x, 2, 16, 10, 3, "P17 PITCH for the other");
        x.hour(1);
        planIs(x, 1, 8, 0, 1, "P17 one HOUR lacks");
        x.hour(1);
        planIs(x, 1, 0, 0, 0, "P17 TIGHT");
        planIs(x, 2, 8, 10, 2, "P17 TIGHT ones do not count");
        Due.is(-4, x.plan(2, 3), "P17 TIGHT ones are not in it");
    }

    private static void promise17FirstFive() {
        BeachedShip x = lowTide(20);
        for (int i = 0; i < 8; i++) {
            x.seam(5, 0, 1, 1, 1, 1 << i >> 1 > 0 ? 1 << i >> 1 : 1);
        }
        planIs(x, 2, 1 + 1 + 2 + 4 + 8, 5, 31, "P17 the first five");
        Due.is(-4, x.plan(2, 3 + 5), "P17 the sixth");
        Due.is(-4, x.plan(2, 3 + 7), "P17 the eighth");
        x.hour(2);
        planIs(x, 2, 16, 5, 31, "P17 an OPEN one counts");
        x.hour(2);
        planIs(x, 2, 1 + 2 + 4 + 8 + 16, 5, 61, "P17 a TIGHT one does not count");
        Due.is(0, x.plan(2, 3 + 5), "P17 the sixth then");
        Due.is(-4, x.plan(2, 3 + 1), "P17 the TIGHT one");
        Due.is(-4, x.plan(2, 3 + 6), "P17 the seventh");
        x.tide(2, 30);
        planIs(x, 2, 0, 0, 0, "P17 none is BARE");
        BeachedShip y = lowTide(20);
        for (int i = 0; i < 5; i++) {
            y.seam(1, 0, 1, 1, 1, 1);
        }
        y.seam(5, 0, 1, 1, 1, 1);
        y.tide(0, 4);
        planIs(y, 2, 0, 0, 0, "P17 the first five count though they are not BARE");
    }

    private static void promise17ByHeel() {
        BeachedShip x = Ships.strong();
        Ships.tideAll(x, 21);
        x.seam(5, 0, 1, 1, 0, 3);
        x.seam(5, 1, 1, 1, 0, 5);
        planIs(x, 2, 0, 0, 0, "P17 HEEL 0");
        x.heel(1);
        planIs(x, 2, 3, 0, 1, "P17 HEEL 1");
        x.hour(0);
        x.heel(-1);
        x.hour(0);
        x.heel(-1);
        planIs(x, 2, 5, 0, 2, "P17 HEEL -1");
        x.rule(5, 0);
        x.rule(6, 0);
        x.rule(7, 0);
        planIs(x, 2, 5, 0, 2, "P17 HEEL as it is, though it does not HOLD");
    }

    private static void promise17Edges() {
        BeachedShip x = lowTide(10);
        int[] badN = {0, 7, -1, LEAST, MOST};
        for (int n : badN) {
            Due.is(-1, x.plan(n, 0), "P17 n " + n);
        }
        int[] badWhat = {-1, 3, 4, LEAST, MOST};
        for (int w : badWhat) {
            Due.is(-1, x.plan(1, w), "P17 what " + w);
        }
        x.seam(5, 0, 1, 1, 0, 3);
        Due.is(0, x.plan(6, 3), "P17 what 3 is SEAM 0");
        Due.is(-1, x.plan(6, 4), "P17 what 4 is none");
        Ships.hours(x, 90);
        Due.is(3, x.plan(6, 0), "P17 HOURS 90 to 95");
        x.hour(0);
        Due.is(-2, x.plan(6, 0), "P17 beyond HOUR 95");
        Due.is(-1, x.plan(7, 0), "P17 BAD ahead of NO");
        Due.is(-1, x.plan(6, 4), "P17 BAD ahead of NO, what");
        Due.is(3, x.plan(5, 0), "P17 HOURS 91 to 95");
        Ships.hours(x, 4);
        Due.is(0, x.plan(1, 0), "P17 HOUR 95");
        Due.is(-2, x.plan(2, 0), "P17 HOUR 95 and one beyond");
        x.hour(0);
        Due.is(-2, x.plan(1, 0), "P17 behind HOUR 95");
        BeachedShip y = Ships.lost();
        for (int what = 0; what < 5; what++) {
            Due.is(-2, y.plan(1, what), "P17 LOST");
        }
        Due.is(-1, y.plan(1, 5), "P17 BAD ahead of LOST");
    }

    private static void promise18Orders() {
        BeachedShip x = lowTide(4);
        ordersAre(x, "P18 no SEAM", 0, 0, 0);
        x.seam(5, 0, 4, 1, 0, 5);
        x.seam(5, 0, 2, 2, 0, 5);
        x.seam(5, 0, 1, 1, 0, 5);
        x.seam(5, 0, 1, 4, 0, 1);
        ordersAre(x, "P18 one HOUR", 0);
        ordersAre(x, "P18 two HOURS", 1, 1);
        ordersAre(x, "P18 five HOURS", 1, 1, 6, 6, 2);
        ordersAre(x, "P18 six HOURS", 1, 1, 6, 6, 2, 0);
        Due.is(0, x.count(7), "P18 changes nothing");
        for (int i = 0; i < 5; i++) {
            x.hour(i == 0 ? 1 : i == 1 ? 1 : i == 4 ? 2 : 6);
        }
        Due.is(3, x.count(6), "P18 ORDERS as given make all TIGHT");
        BeachedShip y = lowTide(6);
        y.seam(5, 0, 2, 1, 0, 5);
        y.hour(1);
        y.seam(5, 0, 5, 1, 0, 5);
        ordersAre(y, "P18 an OPEN one, then an OLD one", 1, 2, 2);
        y.rain(2, true);
        ordersAre(y, "P18 with RAIN", 1, 0, 2, 2);
        y.seam(5, 0, 1, 1, 0, 5);
        y.rain(2, false);
        ordersAre(y, "P18 the third beside both", 5, 6, 2);
    }

    private static void promise18Wrong() {
        BeachedShip x = lowTide(4);
        int[] badN = {0, 7, -1, LEAST, MOST};
        for (int n : badN) {
            Due.is(-1, x.orders(n, 0), "P18 n " + n);
        }
        for (int n = 1; n <= 6; n++) {
            int[] badI = {-1, n, LEAST, MOST};
            for (int i : badI) {
                Due.is(-1, x.orders(n, i), "P18 i " + i + " of " + n);
            }
        }
        Ships.hours(x, 95);
        Due.is(0, x.orders(1, 0), "P18 HOUR 95");
        Due.is(-2, x.orders(2, 0), "P18 beyond HOUR 95");
        Due.is(-1, x.orders(2, 2), "P18 BAD ahead of NO");
        Due.is(-2, Ships.lost().orders(1, 0), "P18 LOST");
        Due.is(-1, Ships.lost().orders(1, 1), "P18 BAD ahead of LOST");
    }

    private static void floatIs(BeachedShip x, int hour, int things, int shut, String what) {
        Due.is(hour, x.toFloat(0), what + ": the HOUR");
        Due.is(things, x.toFloat(1), what + ": the THINGS");
        Due.is(shut, x.toFloat(2), what + ": SEAMS shut");
    }

    private static void noneIs(BeachedShip x, String what) {
        floatIs(x, -4, -4, -4, what);
    }

    private static void promise19NothingToDo() {
        BeachedShip x = new BeachedShip();
        floatIs(x, 0, 0, 0, "P19 she floats now");
        x.tide(0, 29);
        x.tide(1, 29);
        floatIs(x, 2, 0, 0, "P19 when TIDE is 30");
        x.rule(0, 9);
        floatIs(x, 0, 0, 0, "P19 BEACH 9");
        x.rule(0, 10);
        x.hour(0);
        floatIs(x, 2, 0, 1, "P19 from HOUR 1");
        x.thing(20, -1);
        noneIs(x, "P19 DRAUGHT 21 and 10 of 30");
        x.tide(95, 31);
        floatIs(x, 95, 0, 1, "P19 HOUR 95");
        x.rule(2, 420);
        floatIs(x, 95, 0, 1, "P19 BALLAST as TOTAL");
        x.rule(2, 421);
        noneIs(x, "P19 BALLAST");
        x.rule(2, 0);
        x.seam(1, 0, 1, 1, 0, 1);
        floatIs(x, 95, 0, 1, "P19 an OLD SEAM does not matter");
    }

    private static void promise19Heel() {
        BeachedShip x = Ships.strong();
        Ships.heelTo(x, 3);
        floatIs(x, 6, 0, 3, "P19 three HOURS for HEEL 3");
        x.heel(-1);
        floatIs(x, 5, 0, 3, "P19 two HOURS for HEEL 2");
        BeachedShip y = Ships.strong();
        Ships.heelTo(y, -4);
        floatIs(y, 8, 0, 4, "P19 four HOURS for HEEL -4");
        y.tide(8, 29);
        floatIs(y, 9, 0, 4, "P19 TIDE 29 then");
        Ships.hours(y, 87);
        floatIs(y, 95, 0, 91, "P19 by HOUR 95");
        y.hour(0);
        noneIs(y, "P19 HOUR 95 is not enough");
    }

    private static void promise19Seams() {
        BeachedShip x = new BeachedShip();
        Ships.tideAll(x, 30);
        for (int h = 0; h < 6; h++) {
            x.tide(h, 10);
        }
        x.seam(5, 0, 6, 2, 5, 1);
        x.seam(5, 0, 5, 1, 5, 1);
        x.seam(5, 0, 5, 1, 5, 1);
        x.hour(1);
        x.hour(2);
        floatIs(x, 6, 0, 5, "P19 two HOURS for the first, one for the second");
        x.rule(3, 11);
        floatIs(x, 6, 0, 4, "P19 both at once");
        x.tide(4, 30);
        floatIs(x, 4, 0, 4, "P19 TIDE in HOUR 4");
        x.rain(2, true);
        floatIs(x, 6, 0, 6, "P19 RAIN in HOUR 2 and TIDE in HOUR 4 put it off");
    }

    private static void promise19SeamsThatStayOpen() {
        BeachedShip x = new BeachedShip();
        Ships.tideAll(x, 10);
        x.tide(95, 30);
        x.seam(9, 0, 6, 2, 5, 1);
        x.hour(1);
        floatIs(x, 95, 0, 3, "P19 PITCH is there");
        x.rule(4, 4);
        noneIs(x, "P19 no PITCH");
        x.rule(4, 5);
        floatIs(x, 95, 0, 3, "P19 just enough PITCH");
        x.rule(3, 5);
        noneIs(x, "P19 too few MEN");
        x.rule(3, 6);
        floatIs(x, 95, 0, 3, "P19 MEN enough");
        for (int h = 2; h < 95; h++) {
            x.rain(h, true);
        }
        noneIs(x, "P19 done in HOUR 95 is too late");
        x.rain(94, false);
        floatIs(x, 95, 0, 95, "P19 done in HOUR 94");
    }

    private static void promise19TrialLosesHer() {
        BeachedShip x = new BeachedShip();
        Ships.tideAll(x, 30);
        x.tide(0, 10);
        x.tide(11, 10);
        x.tide(12, 10);
        x.seam(5, 0, 1, 1, 0, 1);
        x.hour(1);
        floatIs(x, 13, 0, 12, "P19 WATER 100 is not LOST");
        x.tide(11, 20);
        noneIs(x, "P19 the trial loses her");
        Due.is(0, x.ship(7), "P19 she is not LOST herself");
        Due.is(0, x.ship(4), "P19 the trial leaves WATER");
        Due.is(1, x.count(7), "P19 the trial leaves the HOUR");
        x.tide(11, 10);
        Due.is(13, x.toFloat(0), "P19 again");
        Due.is(1, x.seamTold(0, 0), "P19 the trial leaves SEAMS");
        Due.is(0, x.seamTold(0, 2), "P19 the trial leaves work");
        Due.is(1, x.book(1), "P19 the trial leaves THE BOOK");
        Due.is(100, x.book(5), "P19 the trial leaves PITCH");
        BeachedShip y = Ships.lost();
        for (int what = 0; what < 3; what++) {
            Due.is(-2, y.toFloat(what), "P19 LOST");
        }
        Due.is(-1, y.toFloat(3), "P19 BAD ahead of LOST");
    }

    private static void promise19TrialParts() {
        BeachedShip x = new BeachedShip();
        x.tackle(0, 1, 100);
        x.seam(5, 0, 1, 1, 0, 1);
        x.tide(0, 0);
        x.tide(1, 0);
        x.heel(1);
        x.hour(1);
        x.heel(1);
        floatIs(x, 4, 0, 2, "P19 HEEL 2 behind the trial");
        x.rain(1, true);
        x.tide(2, 0);
        floatIs(x, 3, 0, 3, "P19 wet rope parts in the trial: HEEL 0");
        Due.is(2, x.ship(2), "P19 the trial leaves HEEL");
        Due.is(1, x.count(3), "P19 the trial leaves TACKLES");
        Due.is(0, x.book(2), "P19 the trial leaves what PARTED");
    }

    private static BeachedShip threeOut() {
        BeachedShip x = new BeachedShip();
        x.thing(20, -1);
        x.thing(20, 0);
        x.thing(40, -1);
        for (int t = 2; t >= 0; t--) {
            x.move(t);
            x.hour(0);
        }
        Due.is(400, x.ship(0), "P19 three OUT");
        return x;
    }

    private static void promise19Things() {
        BeachedShip x = threeOut();
        Ships.tideAll(x, 40);
        floatIs(x, 3, 0, 3, "P19 no BALLAST");
        x.rule(2, 420);
        floatIs(x, 4, 1, 3, "P19 one, of least bits");
        x.rule(2, 421);
        floatIs(x, 4, 4, 3, "P19 one that is heavier");
        x.rule(2, 440);
        floatIs(x, 4, 4, 3, "P19 one ahead of two");
        x.tide(4, 31);
        floatIs(x, 5, 3, 3, "P19 two of least bits, when one is no sooner");
        x.rule(2, 460);
        floatIs(x, 5, 5, 3, "P19 two of 460");
        x.rule(2, 461);
        floatIs(x, 6, 7, 3, "P19 all");
        x.rule(2, 480);
        floatIs(x, 6, 7, 3, "P19 all of 480");
        x.rule(2, 481);
        noneIs(x, "P19 all are not enough");
        x.rule(2, 440);
        x.tide(4, 32);
        floatIs(x, 4, 4, 3, "P19 22 and 10 of 32");
        Due.is(400, x.ship(0), "P19 they are OUT still");
        Due.is(3, x.book(3), "P19 none moved");
        x.move(2);
        floatIs(x, 3, 0, 3, "P19 it came IN");
        x.rule(2, 460);
        floatIs(x, 5, 1, 3, "P19 one more: 23 and 10 of 32");
        x.tide(4, 33);
        floatIs(x, 4, 1, 3, "P19 one more: 23 and 10 of 33");
        Due.is(1, x.count(1), "P19 one IN");
    }

    private static void promise19ThingsLyingOn() {
        BeachedShip x = threeOut();
        Ships.tideAll(x, 40);
        x.rule(1, 440);
        x.rule(2, 460);
        x.tide(4, 0);
        floatIs(x, 5, 1, 3, "P19 the lowest alone");
        x.hour(0);
        x.move(0);
        x.rule(1, 440);
        x.rule(2, 480);
        floatIs(x, 5, 2, 4, "P19 what lies on one that is IN");
        BeachedShip y = new BeachedShip();
        y.thing(1, -1);
        y.thing(50, 0);
        y.thing(60, -1);
        for (int t = 2; t >= 0; t--) {
            y.move(t);
            y.hour(0);
        }
        Ships.tideAll(y, 40);
        y.rule(2, 450);
        floatIs(y, 4, 4, 3, "P19 not one without what it lies on");
        y.tide(4, 0);
        floatIs(y, 5, 3, 3, "P19 with what it lies on");
    }

    private static void promise19TooManyOut() {
        BeachedShip x = new BeachedShip();
        Ships.tideAll(x, 60);
        for (int t = 0; t < 9; t++) {
            x.thing(1 + t, -1);
        }
        for (int t = 0; t < 8; t++) {
            x.move(t);
            x.hour(0);
        }
        x.rule(2, 444);
        floatIs(x, 15, 254, 8, "P19 eight OUT: 409, and 35 with seven");
        x.rule(2, 445);
        floatIs(x, 16, 255, 8, "P19 eight OUT, all come");
        x.rule(2, 446);
        noneIs(x, "P19 eight OUT, all too light");
        x.rule(2, 415);
        floatIs(x, 9, 32, 8, "P19 eight OUT, one of 6");
        x.move(8);
        for (int what = 0; what < 3; what++) {
            Due.is(-2, x.toFloat(what), "P19 nine OUT");
        }
        Due.is(-1, x.toFloat(3), "P19 BAD ahead of NO");
        x.hour(0);
        x.move(0);
        floatIs(x, 11, 160, 9, "P19 eight OUT again: 401, 6 and 8 of 415");
    }

    private static void promise19Edges() {
        BeachedShip x = new BeachedShip();
        int[] bad = {-1, 3, LEAST, MOST};
        for (int what : bad) {
            Due.is(-1, x.toFloat(what), "P19 what " + what);
        }
        x.thing(20, -1);
        x.move(0);
        Ships.hours(x, 94);
        x.rule(2, 420);
        x.tide(95, 60);
        floatIs(x, 95, 1, 94, "P19 a THING by HOUR 95");
        x.hour(0);
        noneIs(x, "P19 a THING in HOUR 95");
        x.rule(2, 0);
        floatIs(x, 95, 0, 95, "P19 in HOUR 95");
        x.hour(0);
        noneIs(x, "P19 behind HOUR 95");
    }
}
