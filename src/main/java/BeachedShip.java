/**
 * A ship laid on her side on a beach. The names follow the words of the document (../shared/DOC.md): OLD, OPEN and
 * TIGHT seams, WHOLE tackles, HOLDS, SHE FLOATS.
 */
public final class BeachedShip {
    public static final int BAD = -1, NO = -2, FULL = -3, NONE = -4;

    // A HEEL may be -1 or -2 itself, so the calls that tell one need answers beyond it.
    private static final int BAD_BEYOND_HEEL = -100, NO_BEYOND_HEEL = -102;

    private static final int HOURS = 96, MOST_TIDE = 60, MOST_HEEL = 9, MOST_WATER = 100;
    private static final int MASTS = 3, MOST_THINGS = 12, MOST_TACKLES = 6, MOST_SEAMS = 12, MOST_KEPT = 3;
    private static final int MOST_OUT = 8, MOST_PLANNED = 5, MOST_PLAN_HOURS = 6;
    private static final int PLANKS = 30, SOUND = 0, DULL = 1, GAP = -1;

    private static final int BEACH = 0, HULL = 1, BALLAST = 2, MEN = 3, PITCH = 4, FIRST_MAST = 5;
    private static final int[] RULE_AT_FIRST = {10, 400, 0, 10, 100, 200, 200, 200};
    private static final int[] RULE_LEAST = {0, 100, 0, 1, 0, 0, 0, 0};
    private static final int[] RULE_MOST = {40, 1000, 2000, 20, 1000, 1000, 1000, 1000};

    private static final int OLD = 0, OPEN = 1, TIGHT = 2;

    private final Shore shore;
    private final Ship now;
    private final Ship[] kept;
    private final Planner planner;
    private final Floating floating;
    private final Planks planks;
    private int keptSize;

    public BeachedShip() {
        Shore made = new Shore();
        shore = made;
        now = new Ship(made);
        kept = new Ship[MOST_KEPT];
        for (int i = 0; i < MOST_KEPT; i++) {
            kept[i] = new Ship(made);
        }
        planner = new Planner();
        floating = new Floating(new Ship(made));
        planks = new Planks();
        keptSize = 0;
    }

    public int tide(int hour, int v) {
        if (!within(hour, 0, HOURS - 1) || !within(v, 0, MOST_TIDE)) {
            return BAD;
        }
        int was = shore.tide[hour];
        shore.tide[hour] = v;
        return was;
    }

    public int tides(int hour, int n, long v) {
        if (!within(hour, 0, HOURS - 1) || !within(n, 1, 8) || hour + n > HOURS || !areTides(n, v)) {
            return BAD;
        }
        for (int i = 0; i < n; i++) {
            shore.tide[hour + i] = eightBits(v, i);
        }
        return n;
    }

    private static boolean areTides(int n, long v) {
        for (int i = 0; i < 8; i++) {
            if (eightBits(v, i) > (i < n ? MOST_TIDE : 0)) {
                return false;
            }
        }
        return true;
    }

    private static int eightBits(long v, int i) {
        return (int) (v >>> (8 * i)) & 255;
    }

    public int rain(int hour, boolean rain) {
        if (!within(hour, 0, HOURS - 1)) {
            return BAD;
        }
        boolean was = shore.rain[hour];
        shore.rain[hour] = rain;
        return asNumber(was);
    }

    public int rule(int what, int v) {
        if (!within(what, 0, RULE_LEAST.length - 1) || !within(v, RULE_LEAST[what], RULE_MOST[what])) {
            return BAD;
        }
        // PITCH is used up by HOURS and KEPT with them, so it lies in the ship and not in the rules.
        if (what == PITCH) {
            int left = now.pitch;
            now.pitch = v;
            return left;
        }
        int was = shore.rules[what];
        shore.rules[what] = v;
        return was;
    }

    public int thing(int weight, int under) {
        Things things = now.things;
        if (!within(weight, 1, 100) || !within(under, -1, things.size - 1)) {
            return BAD;
        }
        if (under >= 0 && hasBit(things.out, under)) {
            return NO;
        }
        return things.size >= MOST_THINGS ? FULL : things.add(weight, under);
    }

    public int tackle(int mast, int parts, int strength) {
        if (!within(mast, 0, MASTS - 1) || !within(parts, 1, 6) || !within(strength, 1, 400)) {
            return BAD;
        }
        return now.tackles.size >= MOST_TACKLES ? FULL : now.tackles.add(mast, parts, strength);
    }

    public int seam(int strake, int side, int hands, int hours, int pitch, int worth) {
        if (!within(strake, 1, 10) || !within(side, 0, 1) || !within(hands, 1, 6)) {
            return BAD;
        }
        if (!within(hours, 1, 4) || !within(pitch, 0, 50) || !within(worth, 1, 100)) {
            return BAD;
        }
        return now.seams.size >= MOST_SEAMS ? FULL : now.seams.add(strake, side, hands, hours, pitch, worth);
    }

    public int ship(int what) {
        switch (what) {
            case 0: return now.total();
            case 1: return draught(now.total());
            case 2: return now.heel;
            case 3: return now.force(now.heel);
            case 4: return now.water;
            case 5: return asNumber(now.floats());
            case 6: return asNumber(now.holds(now.heel, shore.rainsIn(now.hour)));
            case 7: return asNumber(now.isLost());
            default: return BAD_BEYOND_HEEL;
        }
    }

    public int tackleTold(int tackle, int what) {
        if (!within(tackle, 0, now.tackles.size - 1) || !within(what, 0, 3)) {
            return BAD;
        }
        if (!hasBit(now.tackles.whole, tackle)) {
            return 0;
        }
        int share = now.tackles.share(now.force(now.heel));
        switch (what) {
            case 0: return share;
            case 1: return now.tackles.ropeTakes(tackle, share);
            case 2: return now.tackles.ropeMay(tackle, shore.rainsIn(now.hour));
            default: return 1;
        }
    }

    public int greatest(boolean rain) {
        int size = MOST_HEEL;
        while (size > 0 && !now.holds(size, rain)) {
            size--;
        }
        return size;
    }

    public int seamTold(int seam, int what) {
        if (!within(seam, 0, now.seams.size - 1)) {
            return BAD;
        }
        switch (what) {
            case 0: return now.seams.state[seam];
            case 1: return asNumber(now.isBare(seam, now.hour));
            case 2: return now.seams.done[seam];
            case 3: return now.hoursBare(seam);
            default: return BAD;
        }
    }

    // ---- hours

    public int move(int thing) {
        if (!within(thing, 0, now.things.size - 1)) {
            return BAD;
        }
        if (now.boatUsed || now.isLost() || !now.things.mayMove(thing)) {
            return NO;
        }
        now.moveByBoat(thing);
        return now.total();
    }

    public int heel(int by) {
        if (by != 1 && by != -1) {
            return BAD_BEYOND_HEEL;
        }
        int then = now.heel + by;
        if (now.heelWent || now.isLost() || !within(then, -MOST_HEEL, MOST_HEEL)) {
            return NO_BEYOND_HEEL;
        }
        if (!now.holds(then, shore.rainsIn(now.hour))) {
            return NO_BEYOND_HEEL;
        }
        now.heel = then;
        now.heelWent = true;
        return then;
    }

    public int hour(int orders) {
        if (orders >>> now.seams.size != 0) {
            return BAD;
        }
        if (now.isLost() || now.hour >= HOURS) {
            return NO;
        }
        now.passHour(orders);
        return now.water;
    }

    public int rig(int tackle, boolean whole) {
        if (!within(tackle, 0, now.tackles.size - 1)) {
            return BAD;
        }
        int were = now.tackles.whole;
        now.tackles.whole = whole ? were | 1 << tackle : were & ~(1 << tackle);
        if (!now.holds(now.heel, shore.rainsIn(now.hour))) {
            now.tackles.whole = were;
            return NO;
        }
        return asNumber(hasBit(were, tackle));
    }

    // ---- plans

    public int plan(int n, int what) {
        if (!within(n, 1, MOST_PLAN_HOURS) || !within(what, 0, 2 + now.seams.size)) {
            return BAD;
        }
        if (!mayPlan(n)) {
            return NO;
        }
        planner.make(now, n);
        switch (what) {
            case 0: return planner.worth;
            case 1: return planner.pitch;
            case 2: return planner.seamBits();
            default: return planner.beginningOf(what - 3);
        }
    }

    public int orders(int n, int i) {
        if (!within(n, 1, MOST_PLAN_HOURS) || !within(i, 0, n - 1)) {
            return BAD;
        }
        if (!mayPlan(n)) {
            return NO;
        }
        planner.make(now, n);
        return planner.ordersOf(i);
    }

    private boolean mayPlan(int n) {
        return !now.isLost() && now.hour + n <= HOURS;
    }

    public int toFloat(int what) {
        if (!within(what, 0, 2)) {
            return BAD;
        }
        if (now.isLost() || Integer.bitCount(now.things.out) > MOST_OUT) {
            return NO;
        }
        if (!floating.isFound(now)) {
            return NONE;
        }
        switch (what) {
            case 0: return floating.hour;
            case 1: return floating.things;
            default: return floating.shut;
        }
    }

    // ---- taps, books

    public int tap(int plank, int v) {
        if (!within(plank, 0, PLANKS - 1) || !within(v, GAP, DULL)) {
            return BAD_BEYOND_HEEL;
        }
        int was = planks.tapped[plank];
        planks.tapped[plank] = v;
        return was;
    }

    public int worm(int n, int what) {
        if (!within(n, 1, PLANKS)) {
            return BAD;
        }
        switch (what) {
            case 0: return planks.least(n);
            case 1: return planks.most(n);
            case 2: return planks.leastRuns(n);
            case 3: return planks.mostRuns(n);
            default: return BAD;
        }
    }

    public int book(int what) {
        switch (what) {
            case 0: return now.pitchTaken;
            case 1: return now.hoursOfMen;
            case 2: return now.parted;
            case 3: return now.moved;
            case 4: return now.seams.worthTight();
            case 5: return now.pitch;
            default: return BAD;
        }
    }

    public int keep() {
        if (keptSize >= MOST_KEPT) {
            return FULL;
        }
        kept[keptSize].copyFrom(now);
        keptSize++;
        return keptSize;
    }

    public int back() {
        if (keptSize <= 0) {
            return NO;
        }
        keptSize--;
        now.copyFrom(kept[keptSize]);
        return keptSize;
    }

    public int count(int what) {
        switch (what) {
            case 0: return now.things.size;
            case 1: return now.things.size - Integer.bitCount(now.things.out);
            case 2: return now.tackles.size;
            case 3: return Integer.bitCount(now.tackles.whole);
            case 4: return now.seams.size;
            case 5: return Integer.bitCount(now.seams.bitsOf(OPEN));
            case 6: return Integer.bitCount(now.seams.bitsOf(TIGHT));
            case 7: return now.hour;
            case 8: return keptSize;
            default: return BAD;
        }
    }

    private static boolean within(int v, int least, int most) {
        return v >= least && v <= most;
    }

    private static int asNumber(boolean b) {
        return b ? 1 : 0;
    }

    private static int draught(int total) {
        return total / 20;
    }

    private static boolean hasBit(int bits, int i) {
        return ((bits >> i) & 1) != 0;
    }

    private static int roundedUp(int v, int by) {
        return by <= 0 ? 0 : (v + by - 1) / by;
    }

    /** What no HOUR changes: TIDES, RAIN and the rules. */
    private static final class Shore {
        final int[] tide = new int[HOURS];
        final boolean[] rain = new boolean[HOURS];
        final int[] rules = new int[RULE_AT_FIRST.length];

        Shore() {
            for (int i = 0; i < HOURS; i++) {
                tide[i] = 30;
            }
            for (int i = 0; i < rules.length; i++) {
                rules[i] = RULE_AT_FIRST[i];
            }
        }

        // The HOUR behind HOUR 95 has no row of its own.
        int tideIn(int hour) {
            return tide[Math.max(0, Math.min(hour, HOURS - 1))];
        }

        boolean rainsIn(int hour) {
            return rain[Math.max(0, Math.min(hour, HOURS - 1))];
        }

        int tideNeeded(int total) {
            return draught(total) + rules[BEACH];
        }
    }

    private static final class Things {
        final int[] weight = new int[MOST_THINGS];
        final int[] under = new int[MOST_THINGS];
        int out;
        int size;

        int add(int itsWeight, int itsUnder) {
            weight[size] = itsWeight;
            under[size] = itsUnder;
            size++;
            return size - 1;
        }

        int weightOf(int bits) {
            int sum = 0;
            for (int i = 0; i < size; i++) {
                sum += hasBit(bits, i) ? weight[i] : 0;
            }
            return sum;
        }

        boolean mayMove(int thing) {
            return hasBit(out, thing) ? mayComeIn(1 << thing) : !bearsAny(thing);
        }

        boolean bearsAny(int thing) {
            for (int i = 0; i < size; i++) {
                if (!hasBit(out, i) && under[i] == thing) {
                    return true;
                }
            }
            return false;
        }

        boolean mayComeIn(int bits) {
            int stillOut = out & ~bits;
            for (int i = 0; i < size; i++) {
                if (hasBit(bits, i) && under[i] >= 0 && hasBit(stillOut, under[i])) {
                    return false;
                }
            }
            return true;
        }

        void copyFrom(Things other) {
            System.arraycopy(other.weight, 0, weight, 0, MOST_THINGS);
            System.arraycopy(other.under, 0, under, 0, MOST_THINGS);
            out = other.out;
            size = other.size;
        }
    }

    private static final class Tackles {
        final int[] mast = new int[MOST_TACKLES];
        final int[] parts = new int[MOST_TACKLES];
        final int[] strength = new int[MOST_TACKLES];
        int whole;
        int size;

        int add(int itsMast, int itsParts, int itsStrength) {
            mast[size] = itsMast;
            parts[size] = itsParts;
            strength[size] = itsStrength;
            whole |= 1 << size;
            size++;
            return size - 1;
        }

        int share(int force) {
            return roundedUp(force, Integer.bitCount(whole));
        }

        int ropeTakes(int tackle, int share) {
            return roundedUp(share, parts[tackle]);
        }

        int ropeMay(int tackle, boolean rain) {
            return rain ? strength[tackle] * 3 / 4 : strength[tackle];
        }

        /** The one that PARTS first by this FORCE, or -1. */
        int firstToPart(int force, boolean rain, int[] rules) {
            int share = share(force);
            int rope = ropeMostOver(share, rain);
            for (int m = 0; m < MASTS && rope < 0; m++) {
                if (onMast(m) * share > rules[FIRST_MAST + m]) {
                    rope = lowestOn(m);
                }
            }
            return rope;
        }

        int ropeMostOver(int share, boolean rain) {
            int most = 0;
            int worst = -1;
            for (int i = 0; i < size; i++) {
                int over = ropeTakes(i, share) - ropeMay(i, rain);
                if (hasBit(whole, i) && over > most) {
                    most = over;
                    worst = i;
                }
            }
            return worst;
        }

        int onMast(int m) {
            int sum = 0;
            for (int i = 0; i < size; i++) {
                sum += hasBit(whole, i) && mast[i] == m ? 1 : 0;
            }
            return sum;
        }

        int lowestOn(int m) {
            for (int i = 0; i < size; i++) {
                if (hasBit(whole, i) && mast[i] == m) {
                    return i;
                }
            }
            return -1;
        }

        void copyFrom(Tackles other) {
            System.arraycopy(other.mast, 0, mast, 0, MOST_TACKLES);
            System.arraycopy(other.parts, 0, parts, 0, MOST_TACKLES);
            System.arraycopy(other.strength, 0, strength, 0, MOST_TACKLES);
            whole = other.whole;
            size = other.size;
        }
    }

    private static final class Seams {
        final int[] strake = new int[MOST_SEAMS];
        final int[] side = new int[MOST_SEAMS];
        final int[] hands = new int[MOST_SEAMS];
        final int[] hours = new int[MOST_SEAMS];
        final int[] pitch = new int[MOST_SEAMS];
        final int[] worth = new int[MOST_SEAMS];
        final int[] state = new int[MOST_SEAMS];
        final int[] done = new int[MOST_SEAMS];
        int size;

        int add(int itsStrake, int itsSide, int itsHands, int itsHours, int itsPitch, int itsWorth) {
            strake[size] = itsStrake;
            side[size] = itsSide;
            hands[size] = itsHands;
            hours[size] = itsHours;
            pitch[size] = itsPitch;
            worth[size] = itsWorth;
            state[size] = OLD;
            done[size] = 0;
            size++;
            return size - 1;
        }

        boolean isBare(int seam, int tide, int heel) {
            return tide < 4 * strake[seam] + (side[seam] == 0 ? 3 * heel : -3 * heel);
        }

        int bitsOf(int wanted) {
            int bits = 0;
            for (int i = 0; i < size; i++) {
                bits |= state[i] == wanted ? 1 << i : 0;
            }
            return bits;
        }

        int worthTight() {
            int sum = 0;
            for (int i = 0; i < size; i++) {
                sum += state[i] == TIGHT ? worth[i] : 0;
            }
            return sum;
        }

        int pitchLacking(int seam) {
            return done[seam] > 0 ? 0 : pitch[seam];
        }

        int hoursLacking(int seam) {
            return (state[seam] == OLD ? 1 : 0) + hours[seam] - done[seam];
        }

        void copyFrom(Seams other) {
            System.arraycopy(other.strake, 0, strake, 0, MOST_SEAMS);
            System.arraycopy(other.side, 0, side, 0, MOST_SEAMS);
            System.arraycopy(other.hands, 0, hands, 0, MOST_SEAMS);
            System.arraycopy(other.hours, 0, hours, 0, MOST_SEAMS);
            System.arraycopy(other.pitch, 0, pitch, 0, MOST_SEAMS);
            System.arraycopy(other.worth, 0, worth, 0, MOST_SEAMS);
            System.arraycopy(other.state, 0, state, 0, MOST_SEAMS);
            System.arraycopy(other.done, 0, done, 0, MOST_SEAMS);
            size = other.size;
        }
    }

    /** All that goes by HOURS, and so all that is KEPT. */
    private static final class Ship {
        final Shore shore;
        final Things things = new Things();
        final Tackles tackles = new Tackles();
        final Seams seams = new Seams();
        int hour;
        int heel;
        int water;
        int pitch;
        boolean boatUsed;
        boolean heelWent;
        int pitchTaken;
        int hoursOfMen;
        int parted;
        int moved;

        Ship(Shore itsShore) {
            shore = itsShore;
            pitch = RULE_AT_FIRST[PITCH];
        }

        int total() {
            return shore.rules[HULL] + things.weightOf(~things.out);
        }

        int force(int atHeel) {
            return total() * Math.abs(atHeel) / 10;
        }

        boolean holds(int atHeel, boolean rain) {
            int force = force(atHeel);
            return force == 0 || tackles.whole != 0 && tackles.firstToPart(force, rain, shore.rules) < 0;
        }

        boolean floats() {
            int total = total();
            boolean carried = total >= shore.rules[BALLAST] && shore.tideIn(hour) >= shore.tideNeeded(total);
            return carried && heel == 0 && seams.bitsOf(OPEN) == 0;
        }

        boolean isLost() {
            return water > MOST_WATER;
        }

        boolean isBare(int seam, int atHour) {
            return seams.isBare(seam, shore.tideIn(atHour), heel);
        }

        int hoursBare(int seam) {
            int end = hour;
            while (end < HOURS && isBare(seam, end)) {
                end++;
            }
            return end - hour;
        }

        void moveByBoat(int thing) {
            things.out ^= 1 << thing;
            boatUsed = true;
            moved++;
        }

        void passHour(int orders) {
            if (!shore.rainsIn(hour)) {
                work(orders);
            }
            flood();
            partTackles();
            hour++;
            boatUsed = false;
            heelWent = false;
        }

        private void work(int orders) {
            int men = shore.rules[MEN];
            for (int i = 0; i < seams.size; i++) {
                int hands = seams.hands[i];
                if (hasBit(orders, i) && isBare(i, hour) && hands <= men && isWorkDone(i)) {
                    men -= hands;
                    hoursOfMen += hands;
                }
            }
        }

        private boolean isWorkDone(int seam) {
            if (seams.state[seam] == OLD) {
                seams.state[seam] = OPEN;
                return true;
            }
            int needed = seams.pitchLacking(seam);
            if (seams.state[seam] != OPEN || needed > pitch) {
                return false;
            }
            pitch -= needed;
            pitchTaken += needed;
            seams.done[seam]++;
            if (seams.hoursLacking(seam) == 0) {
                seams.state[seam] = TIGHT;
            }
            return true;
        }

        private void flood() {
            int flooding = 0;
            for (int i = 0; i < seams.size; i++) {
                flooding += seams.state[i] == OPEN && !isBare(i, hour) ? 1 : 0;
            }
            water = flooding > 0 ? water + 10 * flooding : Math.max(0, water - 5);
        }

        private void partTackles() {
            boolean rain = shore.rainsIn(hour);
            for (int i = 0; i < MOST_TACKLES; i++) {
                int first = tackles.firstToPart(force(heel), rain, shore.rules);
                if (first < 0) {
                    break;
                }
                tackles.whole &= ~(1 << first);
                parted++;
            }
            if (tackles.whole == 0) {
                heel = 0;
            }
        }

        void copyFrom(Ship other) {
            things.copyFrom(other.things);
            tackles.copyFrom(other.tackles);
            seams.copyFrom(other.seams);
            hour = other.hour;
            heel = other.heel;
            water = other.water;
            pitch = other.pitch;
            boatUsed = other.boatUsed;
            heelWent = other.heelWent;
            pitchTaken = other.pitchTaken;
            hoursOfMen = other.hoursOfMen;
            parted = other.parted;
            moved = other.moved;
        }
    }

    /** THE PLAN. A set of bits here counts the SEAMS that may be in a plan: bit 0 is the first of them. */
    private static final class Planner {
        private static final long IN_EACH_HOUR = 0x0101010101010101L, TOO_MANY = 0x8080808080808080L;

        private final int[] seam = new int[MOST_PLANNED];
        private final int[] hours = new int[MOST_PLANNED];
        private final int[] mayBegin = new int[MOST_PLANNED];
        private final int[] tried = new int[MOST_PLANNED];
        private final int[] begins = new int[MOST_PLANNED];
        // Hands by HOURS lie eight bits an HOUR in one long, so that a trial is one sum and needs no undoing.
        private final long[] hands = new long[MOST_PLANNED];
        private long menShort;
        private int size;
        private int planned;
        int worth;
        int pitch;

        void make(Ship ship, int n) {
            gather(ship, n);
            menShort = (127 - ship.shore.rules[MEN]) * IN_EACH_HOUR;
            planned = 0;
            worth = 0;
            pitch = 0;
            // The sets go up by bits, so of equal ones the first stays.
            for (int set = 1; set < 1 << size; set++) {
                tryOut(set, ship);
            }
        }

        private void gather(Ship ship, int n) {
            size = 0;
            for (int i = 0; i < ship.seams.size && size < MOST_PLANNED; i++) {
                if (ship.seams.state[i] != TIGHT) {
                    seam[size] = i;
                    hours[size] = ship.seams.hoursLacking(i);
                    mayBegin[size] = beginnings(ship, i, n);
                    hands[size] = 0;
                    for (int h = 0; h < hours[size]; h++) {
                        hands[size] |= (long) ship.seams.hands[i] << (8 * h);
                    }
                    size++;
                }
            }
        }

        private static int beginnings(Ship ship, int seam, int n) {
            int lacking = ship.seams.hoursLacking(seam);
            int bits = 0;
            int row = 0;
            for (int h = 0; h < n; h++) {
                boolean dry = !ship.shore.rainsIn(ship.hour + h) && ship.isBare(seam, ship.hour + h);
                row = dry ? row + 1 : 0;
                if (row >= lacking) {
                    bits |= 1 << (h - lacking + 1);
                }
            }
            return bits;
        }

        private void tryOut(int set, Ship ship) {
            int itsWorth = 0;
            int itsPitch = 0;
            for (int i = 0; i < size; i++) {
                itsWorth += hasBit(set, i) ? ship.seams.worth[seam[i]] : 0;
                itsPitch += hasBit(set, i) ? ship.seams.pitchLacking(seam[i]) : 0;
            }
            boolean better = itsWorth > worth || itsWorth == worth && itsPitch < pitch;
            if (better && itsPitch <= ship.pitch && isPlaced(this, set, 0, 0L)) {
                planned = set;
                worth = itsWorth;
                pitch = itsPitch;
                System.arraycopy(tried, 0, begins, 0, MOST_PLANNED);
            }
        }

        /** Finds beginnings for the SEAMS of the set from number at on; used is what those ahead take. 6 deep at most. */
        private static boolean isPlaced(Planner p, int set, int at, long used) {
            if (at >= p.size || at >= MOST_PLANNED) {
                return true;
            }
            if (!hasBit(set, at)) {
                return isPlaced(p, set, at + 1, used);
            }
            for (int h = 0; h < MOST_PLAN_HOURS; h++) {
                long then = used + (p.hands[at] << (8 * h));
                if (hasBit(p.mayBegin[at], h) && p.areMenEnough(then)) {
                    p.tried[at] = h;
                    if (isPlaced(p, set, at + 1, then)) {
                        return true;
                    }
                }
            }
            return false;
        }

        // At most 30 hands and 126 short in an HOUR: no sum runs over into the next eight bits.
        private boolean areMenEnough(long handsByHours) {
            return ((handsByHours + menShort) & TOO_MANY) == 0;
        }

        int seamBits() {
            int bits = 0;
            for (int i = 0; i < size; i++) {
                bits |= hasBit(planned, i) ? 1 << seam[i] : 0;
            }
            return bits;
        }

        int beginningOf(int itsSeam) {
            for (int i = 0; i < size; i++) {
                if (hasBit(planned, i) && seam[i] == itsSeam) {
                    return begins[i];
                }
            }
            return NONE;
        }

        int ordersOf(int h) {
            int bits = 0;
            for (int i = 0; i < size; i++) {
                boolean works = hasBit(planned, i) && begins[i] <= h && h < begins[i] + hours[i];
                bits |= works ? 1 << seam[i] : 0;
            }
            return bits;
        }
    }

    /** TO FLOAT, THE LEAST. */
    private static final class Floating {
        private final Ship trial;
        int hour;
        int things;
        int shut;

        Floating(Ship forTrials) {
            trial = forTrials;
        }

        boolean isFound(Ship ship) {
            trial.copyFrom(ship);
            for (int h = ship.hour; h < HOURS && !trial.isLost() && trial.seams.bitsOf(OPEN) != 0; h++) {
                trial.passHour(trial.seams.bitsOf(OPEN));
            }
            if (trial.isLost() || trial.seams.bitsOf(OPEN) != 0) {
                return false;
            }
            shut = trial.hour;
            findLeast(ship, shut + Math.abs(trial.heel));
            return hour < HOURS;
        }

        private void findLeast(Ship ship, int upright) {
            int total = ship.total();
            int out = ship.things.out;
            int sets = 1 << Math.min(Integer.bitCount(out), MOST_OUT);
            int set = 0;
            hour = HOURS;
            for (int i = 0; i < sets; i++) {
                if (ship.things.mayComeIn(set)) {
                    int done = Math.max(upright, ship.hour + Integer.bitCount(set));
                    takeIfSooner(set, firstHour(ship.shore, total + ship.things.weightOf(set), done));
                }
                // The next set above, by bits, of those that are OUT.
                set = (set - out) & out;
            }
        }

        // Sets go up by bits, so of equal ones the first stays.
        private void takeIfSooner(int set, int itsHour) {
            if (itsHour < hour) {
                hour = itsHour;
                things = set;
            }
        }

        // A set that is no sooner than the best is not looked at further.
        private int firstHour(Shore shore, int total, int done) {
            if (total < shore.rules[BALLAST]) {
                return HOURS;
            }
            int needed = shore.tideNeeded(total);
            int h = done;
            while (h < hour && shore.tideIn(h) < needed) {
                h++;
            }
            return h;
        }
    }

    private static final class Planks {
        final int[] tapped = new int[PLANKS];

        Planks() {
            for (int i = 0; i < PLANKS; i++) {
                tapped[i] = GAP;
            }
        }

        int least(int n) {
            int sum = 0;
            for (int i = 0; i < n; i++) {
                sum += tapped[i] == DULL ? 1 : 0;
            }
            return sum;
        }

        int most(int n) {
            int sum = 0;
            for (int i = 0; i < n; i++) {
                sum += tapped[i] == SOUND ? 0 : 1;
            }
            return sum;
        }

        // Only a sound one must part two dull ones: GAPS between them may all have WORM.
        int leastRuns(int n) {
            int runs = 0;
            boolean inRun = false;
            for (int i = 0; i < n; i++) {
                if (tapped[i] == DULL && !inRun) {
                    runs++;
                }
                inRun = tapped[i] == DULL || tapped[i] != SOUND && inRun;
            }
            return runs;
        }

        int mostRuns(int n) {
            int impossible = -PLANKS - 1;
            int lastWormy = impossible;
            int lastClean = 0;
            for (int i = 0; i < n; i++) {
                int wormy = Math.max(lastWormy, lastClean + 1);
                int clean = Math.max(lastWormy, lastClean);
                lastWormy = tapped[i] == SOUND ? impossible : wormy;
                lastClean = tapped[i] == DULL ? impossible : clean;
            }
            return Math.max(lastWormy, lastClean);
        }
    }
}
