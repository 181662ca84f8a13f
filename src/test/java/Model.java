import java.util.ArrayList;
import java.util.List;

/**
 * The document once more, by the longest way round and with nothing of the program: all cases are gone through where
 * the program reckons. ModelRuns compares the two.
 */
final class Model {
    private static final int BAD = -1;
    private static final int NO = -2;
    private static final int FULL = -3;
    private static final int NONE = -4;

    private static final class Thing {
        int weight;
        int under;
        boolean in = true;
    }

    private static final class Tackle {
        int mast;
        int parts;
        int strength;
        boolean whole = true;
    }

    private static final class Seam {
        int strake;
        int side;
        int hands;
        int hours;
        int pitch;
        int worth;
        int work;
        boolean raked;

        boolean old() {
            return !raked;
        }

        boolean open() {
            return raked && work < hours;
        }

        boolean tight() {
            return raked && work == hours;
        }
    }

    private static final class State {
        List<Thing> things = new ArrayList<>();
        List<Tackle> tackles = new ArrayList<>();
        List<Seam> seams = new ArrayList<>();
        int hour;
        int heel;
        int water;
        int pitch = 100;
        boolean boat;
        boolean heeled;
        int taken;
        int menHours;
        int parted;
        int moved;

        State copy() {
            State s = new State();
            for (Thing t : things) {
                Thing c = new Thing();
                c.weight = t.weight;
                c.under = t.under;
                c.in = t.in;
                s.things.add(c);
            }
            for (Tackle t : tackles) {
                Tackle c = new Tackle();
                c.mast = t.mast;
                c.parts = t.parts;
                c.strength = t.strength;
                c.whole = t.whole;
                s.tackles.add(c);
            }
            for (Seam m : seams) {
                Seam c = new Seam();
                c.strake = m.strake;
                c.side = m.side;
                c.hands = m.hands;
                c.hours = m.hours;
                c.pitch = m.pitch;
                c.worth = m.worth;
                c.work = m.work;
                c.raked = m.raked;
                s.seams.add(c);
            }
            s.hour = hour;
            s.heel = heel;
            s.water = water;
            s.pitch = pitch;
            s.boat = boat;
            s.heeled = heeled;
            s.taken = taken;
            s.menHours = menHours;
            s.parted = parted;
            s.moved = moved;
            return s;
        }
    }

    private final int[] tides = new int[96];
    private final boolean[] rains = new boolean[96];
    private final int[] bears = {200, 200, 200};
    private final int[] planks = new int[30];
    private final List<State> kept = new ArrayList<>();
    private State now = new State();
    private int beach = 10;
    private int hull = 400;
    private int ballast = 0;
    private int men = 10;

    Model() {
        for (int h = 0; h < 96; h++) {
            tides[h] = 30;
        }
        for (int p = 0; p < 30; p++) {
            planks[p] = -1;
        }
    }

    private int tideAt(int hour) {
        return hour > 95 ? tides[95] : tides[hour];
    }

    private boolean rainAt(int hour) {
        return hour > 95 ? rains[95] : rains[hour];
    }

    int tide(int hour, int v) {
        if (hour < 0 || hour > 95 || v < 0 || v > 60) {
            return BAD;
        }
        int was = tides[hour];
        tides[hour] = v;
        return was;
    }

    int tides(int hour, int n, long v) {
        if (hour < 0 || hour > 95 || n < 1 || n > 8 || hour > 96 - n) {
            return BAD;
        }
        int[] found = new int[n];
        long rest = v;
        for (int i = 0; i < n; i++) {
            found[i] = (int) (rest & 0xFF);
            rest = rest >>> 8;
            if (found[i] > 60) {
                return BAD;
            }
        }
        if (rest != 0) {
            return BAD;
        }
        System.arraycopy(found, 0, tides, hour, n);
        return n;
    }

    int rain(int hour, boolean rain) {
        if (hour < 0 || hour > 95) {
            return BAD;
        }
        int was = rains[hour] ? 1 : 0;
        rains[hour] = rain;
        return was;
    }

    int rule(int what, int v) {
        int was;
        if (what == 0 && v >= 0 && v <= 40) {
            was = beach;
            beach = v;
        } else if (what == 1 && v >= 100 && v <= 1000) {
            was = hull;
            hull = v;
        } else if (what == 2 && v >= 0 && v <= 2000) {
            was = ballast;
            ballast = v;
        } else if (what == 3 && v >= 1 && v <= 20) {
            was = men;
            men = v;
        } else if (what == 4 && v >= 0 && v <= 1000) {
            was = now.pitch;
            now.pitch = v;
        } else if (what >= 5 && what <= 7 && v >= 0 && v <= 1000) {
            was = bears[what - 5];
            bears[what - 5] = v;
        } else {
            was = BAD;
        }
        return was;
    }

    int thing(int weight, int under) {
        if (weight < 1 || weight > 100 || under < -1 || under >= now.things.size()) {
            return BAD;
        }
        if (under != -1 && !now.things.get(under).in) {
            return NO;
        }
        if (now.things.size() == 12) {
            return FULL;
        }
        Thing t = new Thing();
        t.weight = weight;
        t.under = under;
        now.things.add(t);
        return now.things.size() - 1;
    }

    int tackle(int mast, int parts, int strength) {
        if (mast < 0 || mast > 2 || parts < 1 || parts > 6 || strength < 1 || strength > 400) {
            return BAD;
        }
        if (now.tackles.size() == 6) {
            return FULL;
        }
        Tackle t = new Tackle();
        t.mast = mast;
        t.parts = parts;
        t.strength = strength;
        now.tackles.add(t);
        return now.tackles.size() - 1;
    }

    int seam(int strake, int side, int hands, int hours, int pitch, int worth) {
        if (strake < 1 || strake > 10 || side < 0 || side > 1 || hands < 1 || hands > 6 || hours < 1 || hours > 4
            || pitch < 0 || pitch > 50 || worth < 1 || worth > 100) {
            return BAD;
        }
        if (now.seams.size() == 12) {
            return FULL;
        }
        Seam s = new Seam();
        s.strake = strake;
        s.side = side;
        s.hands = hands;
        s.hours = hours;
        s.pitch = pitch;
        s.worth = worth;
        now.seams.add(s);
        return now.seams.size() - 1;
    }

    private int total(State s) {
        int sum = hull;
        for (Thing t : s.things) {
            if (t.in) {
                sum += t.weight;
            }
        }
        return sum;
    }

    private int force(State s, int size) {
        return (int) Math.floor(total(s) * size / 10.0);
    }

    private static int up(int v, int by) {
        return (int) Math.ceil((double) v / by);
    }

    private static int whole(State s) {
        int n = 0;
        for (Tackle t : s.tackles) {
            if (t.whole) {
                n++;
            }
        }
        return n;
    }

    private static int may(Tackle t, boolean rain) {
        return rain ? (int) Math.floor(t.strength * 0.75) : t.strength;
    }

    private int mastTakes(State s, int mast, int each) {
        int sum = 0;
        for (Tackle t : s.tackles) {
            if (t.whole && t.mast == mast) {
                sum += each;
            }
        }
        return sum;
    }

    private boolean holds(State s, int size, boolean rain) {
        int force = force(s, size);
        if (force == 0) {
            return true;
        }
        int n = whole(s);
        if (n == 0) {
            return false;
        }
        int each = up(force, n);
        for (Tackle t : s.tackles) {
            if (t.whole && up(each, t.parts) > may(t, rain)) {
                return false;
            }
        }
        for (int m = 0; m < 3; m++) {
            if (mastTakes(s, m, each) > bears[m]) {
                return false;
            }
        }
        return true;
    }

    private boolean holdsNow(State s) {
        return holds(s, Math.abs(s.heel), rainAt(s.hour));
    }

    private boolean floats(State s) {
        return s.heel == 0 && !anyOpen(s) && total(s) >= ballast && tideAt(s.hour) >= total(s) / 20 + beach;
    }

    private static boolean anyOpen(State s) {
        for (Seam m : s.seams) {
            if (m.open()) {
                return true;
            }
        }
        return false;
    }

    private static boolean lost(State s) {
        return s.water > 100;
    }

    private boolean bare(Seam s, int heel, int hour) {
        int side = s.side == 0 ? 1 : -1;
        return tideAt(hour) < 4 * s.strake + side * 3 * heel;
    }

    int ship(int what) {
        int total = total(now);
        int[] told = {total, total / 20, now.heel, force(now, Math.abs(now.heel)), now.water, floats(now) ? 1 : 0,
            holdsNow(now) ? 1 : 0, lost(now) ? 1 : 0};
        return what < 0 || what >= told.length ? -100 : told[what];
    }

    int tackleTold(int tackle, int what) {
        if (tackle < 0 || tackle >= now.tackles.size() || what < 0 || what > 3) {
            return BAD;
        }
        Tackle t = now.tackles.get(tackle);
        if (!t.whole) {
            return 0;
        }
        int each = up(force(now, Math.abs(now.heel)), whole(now));
        int[] told = {each, up(each, t.parts), may(t, rainAt(now.hour)), 1};
        return told[what];
    }

    int greatest(boolean rain) {
        int best = 0;
        for (int size = 0; size <= 9; size++) {
            if (holds(now, size, rain)) {
                best = size;
            }
        }
        return best;
    }

    int seamTold(int seam, int what) {
        if (seam < 0 || seam >= now.seams.size() || what < 0 || what > 3) {
            return BAD;
        }
        Seam s = now.seams.get(seam);
        int row = 0;
        for (int h = now.hour; h <= 95; h++) {
            if (!bare(s, now.heel, h)) {
                break;
            }
            row++;
        }
        int[] told = {s.old() ? 0 : s.open() ? 1 : 2, bare(s, now.heel, now.hour) ? 1 : 0, s.work, row};
        return told[what];
    }

    int move(int thing) {
        if (thing < 0 || thing >= now.things.size()) {
            return BAD;
        }
        Thing t = now.things.get(thing);
        boolean may = true;
        if (t.in) {
            for (Thing o : now.things) {
                may = may && !(o.under == thing && o.in);
            }
        } else {
            may = t.under == -1 || now.things.get(t.under).in;
        }
        if (!may || now.boat || lost(now)) {
            return NO;
        }
        t.in = !t.in;
        now.boat = true;
        now.moved++;
        return total(now);
    }

    int heel(int by) {
        if (by != 1 && by != -1) {
            return -100;
        }
        int then = now.heel + by;
        if (then > 9 || then < -9 || now.heeled || lost(now) || !holds(now, Math.abs(then), rainAt(now.hour))) {
            return -102;
        }
        now.heel = then;
        now.heeled = true;
        return then;
    }

    private boolean anySeamBeyond(int orders) {
        for (int b = 0; b < 32; b++) {
            if ((orders & 1 << b) != 0 && b >= now.seams.size()) {
                return true;
            }
        }
        return false;
    }

    int hour(int orders) {
        if (anySeamBeyond(orders)) {
            return BAD;
        }
        if (lost(now) || now.hour > 95) {
            return NO;
        }
        goBy(now, orders);
        return now.water;
    }

    private void goBy(State s, int orders) {
        int free = men;
        for (int i = 0; i < s.seams.size(); i++) {
            Seam m = s.seams.get(i);
            boolean ordered = (orders & 1 << i) != 0;
            if (!ordered || rainAt(s.hour) || !bare(m, s.heel, s.hour) || m.tight() || m.hands > free) {
                continue;
            }
            if (m.old()) {
                m.raked = true;
            } else {
                if (m.work == 0) {
                    if (m.pitch > s.pitch) {
                        continue;
                    }
                    s.pitch -= m.pitch;
                    s.taken += m.pitch;
                }
                m.work++;
            }
            free -= m.hands;
            s.menHours += m.hands;
        }
        int more = 0;
        for (Seam m : s.seams) {
            if (m.open() && !bare(m, s.heel, s.hour)) {
                more += 10;
            }
        }
        s.water = more > 0 ? s.water + more : s.water < 5 ? 0 : s.water - 5;
        while (!holdsNow(s)) {
            if (whole(s) == 0) {
                s.heel = 0;
            } else {
                part(s);
            }
        }
        if (whole(s) == 0) {
            s.heel = 0;
        }
        s.hour++;
        s.boat = false;
        s.heeled = false;
    }

    private void part(State s) {
        int each = up(force(s, Math.abs(s.heel)), whole(s));
        Tackle worst = null;
        int most = 0;
        for (Tackle t : s.tackles) {
            int over = up(each, t.parts) - may(t, rainAt(s.hour));
            if (t.whole && over > most) {
                worst = t;
                most = over;
            }
        }
        for (int m = 2; m >= 0 && most == 0; m--) {
            if (mastTakes(s, m, each) > bears[m]) {
                for (int i = s.tackles.size() - 1; i >= 0; i--) {
                    Tackle t = s.tackles.get(i);
                    worst = t.whole && t.mast == m ? t : worst;
                }
            }
        }
        worst.whole = false;
        s.parted++;
    }

    int rig(int tackle, boolean whole) {
        if (tackle < 0 || tackle >= now.tackles.size()) {
            return BAD;
        }
        State then = now.copy();
        then.tackles.get(tackle).whole = whole;
        if (!holdsNow(then)) {
            return NO;
        }
        int was = now.tackles.get(tackle).whole ? 1 : 0;
        now = then;
        return was;
    }

    /** WORTH, PITCH, bits, then a beginning for each of the SEAMS, -4 where there is none; null for no such plan. */
    private int[] planFor(int n) {
        if (lost(now) || now.hour + n - 1 > 95) {
            return null;
        }
        List<Integer> counted = new ArrayList<>();
        for (int i = 0; i < now.seams.size() && counted.size() < 5; i++) {
            if (!now.seams.get(i).tight()) {
                counted.add(i);
            }
        }
        int[] none = new int[15];
        for (int i = 3; i < 15; i++) {
            none[i] = NONE;
        }
        return bestPlan(counted, 0, none, n);
    }

    private int[] bestPlan(List<Integer> counted, int at, int[] chosen, int n) {
        if (at == counted.size()) {
            return isPlan(chosen, n) ? chosen.clone() : null;
        }
        int seam = counted.get(at);
        int[] best = bestPlan(counted, at + 1, chosen, n);
        for (int begin = 0; begin < n; begin++) {
            if (!hasRoom(now.seams.get(seam), begin, n)) {
                continue;
            }
            chosen[3 + seam] = begin;
            int[] other = bestPlan(counted, at + 1, chosen, n);
            chosen[3 + seam] = NONE;
            if (best == null || other != null && isBetter(other, best)) {
                best = other;
            }
        }
        return best;
    }

    private static int lacks(Seam m) {
        return m.hours - m.work + (m.old() ? 1 : 0);
    }

    private boolean hasRoom(Seam m, int begin, int n) {
        for (int h = begin; h < begin + lacks(m); h++) {
            if (h >= n || rainAt(now.hour + h) || !bare(m, now.heel, now.hour + h)) {
                return false;
            }
        }
        return true;
    }

    private boolean isPlan(int[] chosen, int n) {
        chosen[0] = 0;
        chosen[1] = 0;
        chosen[2] = 0;
        int[] used = new int[n];
        for (int i = 0; i < now.seams.size(); i++) {
            Seam m = now.seams.get(i);
            if (chosen[3 + i] != NONE) {
                chosen[0] += m.worth;
                chosen[1] += m.work == 0 ? m.pitch : 0;
                chosen[2] += 1 << i;
                for (int h = 0; h < lacks(m); h++) {
                    used[chosen[3 + i] + h] += m.hands;
                }
            }
        }
        for (int u : used) {
            if (u > men) {
                return false;
            }
        }
        return chosen[1] <= now.pitch;
    }

    private static boolean isBetter(int[] a, int[] b) {
        if (a[0] != b[0]) {
            return a[0] > b[0];
        }
        for (int i = 1; i < 15; i++) {
            if (a[i] != b[i]) {
                return a[i] < b[i];
            }
        }
        return false;
    }

    int plan(int n, int what) {
        if (n < 1 || n > 6 || what < 0 || what > 2 && what - 3 >= now.seams.size()) {
            return BAD;
        }
        int[] plan = planFor(n);
        return plan == null ? NO : plan[what];
    }

    int orders(int n, int i) {
        if (n < 1 || n > 6 || i < 0 || i >= n) {
            return BAD;
        }
        int[] plan = planFor(n);
        if (plan == null) {
            return NO;
        }
        int bits = 0;
        for (int s = 0; s < now.seams.size(); s++) {
            for (int h = 0; plan[3 + s] != NONE && h < lacks(now.seams.get(s)); h++) {
                if (plan[3 + s] + h == i) {
                    bits |= 1 << s;
                }
            }
        }
        return bits;
    }

    int toFloat(int what) {
        if (what < 0 || what > 2) {
            return BAD;
        }
        List<Integer> out = new ArrayList<>();
        for (int i = 0; i < now.things.size(); i++) {
            if (!now.things.get(i).in) {
                out.add(i);
            }
        }
        if (out.size() > 8 || lost(now)) {
            return NO;
        }
        State trial = now.copy();
        while (anyOpen(trial) && !lost(trial) && trial.hour <= 95) {
            int orders = 0;
            for (int i = 0; i < trial.seams.size(); i++) {
                orders |= trial.seams.get(i).open() ? 1 << i : 0;
            }
            goBy(trial, orders);
        }
        if (anyOpen(trial) || lost(trial)) {
            return NONE;
        }
        int shut = trial.hour;
        int[] best = null;
        for (int bits = 4095; bits >= 0; bits--) {
            int hour = floatsWith(bits, out, shut + Math.abs(trial.heel));
            if (hour <= 95 && (best == null || hour <= best[0])) {
                best = new int[] {hour, bits, shut};
            }
        }
        return best == null ? NONE : best[what];
    }

    /** The HOUR, 96 if there is none: the THINGS are brought IN one by one, as long as there is one that may. */
    private int floatsWith(int bits, List<Integer> out, int upright) {
        for (int i = 0; i < 12; i++) {
            if ((bits & 1 << i) != 0 && !out.contains(i)) {
                return 96;
            }
        }
        State s = now.copy();
        int left = bits;
        int done = s.hour;
        for (int i = 0; i < s.things.size(); i++) {
            Thing t = s.things.get(i);
            boolean may = t.under == -1 || s.things.get(t.under).in;
            if ((left & 1 << i) != 0 && may) {
                t.in = true;
                left &= ~(1 << i);
                done++;
                i = -1;
            }
        }
        if (left != 0) {
            return 96;
        }
        s.heel = 0;
        s.seams.clear();
        s.hour = Math.max(done, upright);
        while (s.hour <= 95 && !floats(s)) {
            s.hour++;
        }
        return Math.min(s.hour, 96);
    }

    int tap(int plank, int v) {
        if (plank < 0 || plank > 29 || v < -1 || v > 1) {
            return -100;
        }
        int was = planks[plank];
        planks[plank] = v;
        return was;
    }

    /** Goes through what is reached, plank by plank: how many with WORM, how many RUNS, WORM in the last or not. */
    int worm(int n, int what) {
        if (n < 1 || n > 30 || what < 0 || what > 3) {
            return BAD;
        }
        boolean[][][] reached = new boolean[32][32][2];
        reached[0][0][0] = true;
        for (int p = 0; p < n; p++) {
            boolean[][][] next = new boolean[32][32][2];
            for (int worms = 0; worms <= p; worms++) {
                for (int runs = 0; runs <= p; runs++) {
                    for (int last = 0; last < 2; last++) {
                        if (reached[worms][runs][last] && planks[p] != 1) {
                            next[worms][runs][0] = true;
                        }
                        if (reached[worms][runs][last] && planks[p] != 0) {
                            next[worms + 1][runs + 1 - last][1] = true;
                        }
                    }
                }
            }
            reached = next;
        }
        int least = 99;
        int most = 0;
        for (int worms = 0; worms < 32; worms++) {
            for (int runs = 0; runs < 32; runs++) {
                if (reached[worms][runs][0] || reached[worms][runs][1]) {
                    least = Math.min(least, what < 2 ? worms : runs);
                    most = Math.max(most, what < 2 ? worms : runs);
                }
            }
        }
        return what % 2 == 0 ? least : most;
    }

    int book(int what) {
        int worth = 0;
        for (Seam m : now.seams) {
            worth += m.tight() ? m.worth : 0;
        }
        int[] told = {now.taken, now.menHours, now.parted, now.moved, worth, now.pitch};
        return what < 0 || what >= told.length ? BAD : told[what];
    }

    int keep() {
        if (kept.size() == 3) {
            return FULL;
        }
        kept.add(now.copy());
        return kept.size();
    }

    int back() {
        if (kept.isEmpty()) {
            return NO;
        }
        now = kept.remove(kept.size() - 1);
        return kept.size();
    }

    int count(int what) {
        int in = 0;
        for (Thing t : now.things) {
            in += t.in ? 1 : 0;
        }
        int open = 0;
        int tight = 0;
        for (Seam m : now.seams) {
            open += m.open() ? 1 : 0;
            tight += m.tight() ? 1 : 0;
        }
        int[] told = {now.things.size(), in, now.tackles.size(), whole(now), now.seams.size(), open, tight, now.hour,
            kept.size()};
        return what < 0 || what >= told.length ? BAD : told[what];
    }
}
