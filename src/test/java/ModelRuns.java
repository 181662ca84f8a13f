/** Long runs of calls on the program and on the Model, which must answer alike. The same runs every time. */
final class ModelRuns {
    private static final int RUNS = 1500;
    private static final int CALLS = 380;
    private static final int[] FAR = {Integer.MIN_VALUE, Integer.MIN_VALUE + 1, -100, -2, -1, 12, 13, 96, 100, 4096,
        Integer.MAX_VALUE - 1, Integer.MAX_VALUE};

    private final BeachedShip ship = new BeachedShip();
    private final Model model = new Model();
    private final int run;
    private final Dice dice;
    private int direction;
    private int strengthMost;
    private int tideMost;

    private ModelRuns(int run) {
        this.run = run;
        dice = new Dice(run);
    }

    static void all() {
        for (int run = 0; run < RUNS; run++) {
            new ModelRuns(run).go();
        }
    }

    private int below(int n) {
        return dice.below(n);
    }

    private int from(int least, int most) {
        return dice.from(least, most);
    }

    /** Mostly a number that is told, now and then one just beyond, seldom one far off. */
    private int near(int least, int most) {
        int kind = below(60);
        if (kind == 0) {
            return FAR[below(FAR.length)];
        }
        if (kind == 1) {
            return least - 1;
        }
        return kind == 2 ? most + 1 : from(least, most);
    }

    private void is(long want, long got, String call) {
        Due.is(want, got, "run " + run + ": " + call);
    }

    private void go() {
        direction = below(2) == 0 ? 1 : -1;
        strengthMost = from(10, 400);
        tideMost = from(12, 60);
        if (below(3) > 0) {
            layTides();
        }
        layRules();
        for (int i = 0; i < 18; i++) {
            bring();
        }
        for (int i = 60; i < CALLS; i++) {
            if (below(100) < 48) {
                change();
            } else {
                tell();
            }
        }
    }

    private void layTides() {
        int length = from(2, 9);
        int low = below(tideMost);
        for (int h = 0; h < 96; h += 8) {
            long v = 0;
            for (int i = 7; i >= 0; i--) {
                int tide = (h + i) / length % 2 == 0 ? below(low + 1) : from(low, tideMost);
                v = v << 8 | tide;
            }
            is(model.tides(h, 8, v), ship.tides(h, 8, v), "tides(" + h + ", 8, " + v + ")");
        }
    }

    private void layRules() {
        rule(0, from(0, 12));
        rule(1, below(3) > 0 ? from(100, 400) : from(100, 1000));
        if (below(2) == 0) {
            rule(2, from(100, 700));
        }
        rule(3, from(1, 20));
        rule(4, below(2) == 0 ? from(0, 60) : from(0, 400));
        for (int m = 5; m < 8; m++) {
            rule(m, below(4) == 0 ? from(0, 100) : from(0, 1000));
        }
    }

    private void rule(int what, int v) {
        is(model.rule(what, v), ship.rule(what, v), "rule(" + what + ", " + v + ")");
    }

    private void bring() {
        int kind = below(10);
        if (kind < 3) {
            int w = near(1, 100);
            int u = below(2) == 0 ? -1 : near(-1, Math.max(0, model.count(0) - 1));
            is(model.thing(w, u), ship.thing(w, u), "thing(" + w + ", " + u + ")");
        } else if (kind < 6) {
            int m = near(0, 2);
            int p = near(1, 6);
            int s = near(1, strengthMost);
            is(model.tackle(m, p, s), ship.tackle(m, p, s), "tackle(" + m + ", " + p + ", " + s + ")");
        } else {
            int[] a = {near(1, 10), near(0, 1), near(1, 6), near(1, 4), near(0, 50),
                below(2) == 0 ? from(1, 4) : near(1, 100)};
            is(model.seam(a[0], a[1], a[2], a[3], a[4], a[5]), ship.seam(a[0], a[1], a[2], a[3], a[4], a[5]),
                "seam(" + a[0] + ", " + a[1] + ", " + a[2] + ", " + a[3] + ", " + a[4] + ", " + a[5] + ")");
        }
    }

    private void change() {
        int kind = below(100);
        if (kind < 34) {
            hour();
        } else if (kind < 52) {
            heel();
        } else if (kind < 70) {
            int t = near(0, Math.max(0, model.count(0) - 1));
            is(model.move(t), ship.move(t), "move(" + t + ")");
        } else if (kind < 76) {
            int t = near(0, Math.max(0, model.count(2) - 1));
            boolean whole = below(3) > 0;
            is(model.rig(t, whole), ship.rig(t, whole), "rig(" + t + ", " + whole + ")");
        } else if (kind < 80) {
            bring();
        } else if (kind < 84) {
            is(model.keep(), ship.keep(), "keep()");
        } else if (kind < 87) {
            is(model.back(), ship.back(), "back()");
        } else if (kind < 91) {
            weather();
        } else if (kind < 94) {
            changeRule();
        } else {
            int p = below(2) == 0 ? from(0, 6) : near(0, 29);
            int v = near(-1, 1);
            is(model.tap(p, v), ship.tap(p, v), "tap(" + p + ", " + v + ")");
        }
    }

    private void hour() {
        int all = (1 << model.count(4)) - 1;
        int kind = below(20);
        int orders = kind == 0 ? near(0, 4095) : kind < 8 ? below(all + 1) : kind < 15 ? all : 0;
        is(model.hour(orders), ship.hour(orders), "hour(" + orders + ")");
    }

    private void heel() {
        int by = below(40) == 0 ? near(-2, 2) : direction;
        if (below(16) == 0) {
            direction = -direction;
        }
        is(model.heel(by), ship.heel(by), "heel(" + by + ")");
    }

    private void weather() {
        int h = below(3) == 0 ? near(0, 95) : Math.min(95, model.count(7) + below(6));
        int kind = below(10);
        if (kind < 5) {
            boolean rain = below(2) == 0;
            is(model.rain(h, rain), ship.rain(h, rain), "rain(" + h + ", " + rain + ")");
        } else if (kind < 8) {
            int v = near(0, tideMost);
            is(model.tide(h, v), ship.tide(h, v), "tide(" + h + ", " + v + ")");
        } else {
            int n = near(1, 8);
            long v = below(2) == 0 ? dice.bits() & 0x1F1F1F1F1F1F1F1FL : 0;
            v = n > 0 && n < 8 && below(8) > 0 ? v & (1L << 8 * n) - 1 : v;
            v = below(6) == 0 ? v | 1L << below(64) : v;
            is(model.tides(h, n, v), ship.tides(h, n, v), "tides(" + h + ", " + n + ", " + v + ")");
        }
    }

    private void changeRule() {
        int what = near(0, 7);
        int[] most = {14, 700, 900, 20, 120, 400, 400, 400};
        int v = near(what == 1 ? 100 : 0, what >= 0 && what < 8 ? most[what] : 50);
        rule(what, v);
    }

    private void tell() {
        int kind = below(100);
        if (kind < 20) {
            int w = near(0, 7);
            is(model.ship(w), ship.ship(w), "ship(" + w + ")");
        } else if (kind < 35) {
            int w = near(0, 8);
            is(model.count(w), ship.count(w), "count(" + w + ")");
        } else if (kind < 45) {
            int w = near(0, 5);
            is(model.book(w), ship.book(w), "book(" + w + ")");
        } else if (kind < 55) {
            int t = near(0, Math.max(0, model.count(2) - 1));
            int w = near(0, 3);
            is(model.tackleTold(t, w), ship.tackleTold(t, w), "tackleTold(" + t + ", " + w + ")");
        } else if (kind < 70) {
            int s = near(0, Math.max(0, model.count(4) - 1));
            int w = near(0, 3);
            is(model.seamTold(s, w), ship.seamTold(s, w), "seamTold(" + s + ", " + w + ")");
        } else if (kind < 78) {
            boolean rain = below(2) == 0;
            is(model.greatest(rain), ship.greatest(rain), "greatest(" + rain + ")");
        } else {
            reckon();
        }
    }

    private void reckon() {
        int kind = below(22);
        if (kind < 7) {
            int n = near(1, 6);
            int w = below(2) == 0 ? from(0, 2) : near(0, 2 + model.count(4));
            is(model.plan(n, w), ship.plan(n, w), "plan(" + n + ", " + w + ")");
        } else if (kind < 11) {
            int n = near(1, 6);
            int i = near(0, n > 0 && n < 7 ? n - 1 : 5);
            is(model.orders(n, i), ship.orders(n, i), "orders(" + n + ", " + i + ")");
        } else if (kind < 17) {
            int w = near(0, 2);
            is(model.toFloat(w), ship.toFloat(w), "toFloat(" + w + ")");
        } else {
            int n = below(2) == 0 ? from(1, 8) : near(1, 30);
            int w = near(0, 3);
            is(model.worm(n, w), ship.worm(n, w), "worm(" + n + ", " + w + ")");
        }
    }
}
