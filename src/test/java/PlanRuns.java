/** THE PLAN and TO FLOAT in many states, on the program and on the Model, which must answer alike. */
final class PlanRuns {
    private static final int PLANS = 700;
    private static final int FLOATS = 1500;

    private final BeachedShip ship = new BeachedShip();
    private final Model model = new Model();
    private final String name;
    private final Dice dice;

    private PlanRuns(String kind, int run) {
        name = kind + " run " + run + ": ";
        dice = new Dice(run);
    }

    static void all() {
        for (int run = 0; run < PLANS; run++) {
            new PlanRuns("plan", run).plans();
        }
        for (int run = 0; run < FLOATS; run++) {
            new PlanRuns("float", run).floats();
        }
    }

    private void is(long want, long got, String call) {
        Due.is(want, got, name + call);
    }

    private void tide(int hour, int v) {
        is(model.tide(hour, v), ship.tide(hour, v), "tide");
    }

    private void rule(int what, int v) {
        is(model.rule(what, v), ship.rule(what, v), "rule");
    }

    private void seam(int strake, int hands, int hours, int pitch, int worth) {
        int side = dice.below(3) == 0 ? 1 : 0;
        is(model.seam(strake, side, hands, hours, pitch, worth), ship.seam(strake, side, hands, hours, pitch, worth),
            "seam");
    }

    private void hour(int orders) {
        is(model.hour(orders), ship.hour(orders), "hour(" + orders + ")");
    }

    private void heel(int by) {
        is(model.heel(by), ship.heel(by), "heel");
    }

    private void move(int thing) {
        is(model.move(thing), ship.move(thing), "move");
    }

    private void rainAtTimes(int hours, int oneOf) {
        for (int h = 0; h < hours; h++) {
            boolean rain = dice.below(oneOf) == 0;
            is(model.rain(h, rain), ship.rain(h, rain), "rain");
        }
    }

    private void tackles(int n, int strengthMost) {
        for (int i = 0; i < n; i++) {
            int strength = dice.from(20, strengthMost);
            is(model.tackle(i % 3, 3, strength), ship.tackle(i % 3, 3, strength), "tackle");
        }
    }

    private void plans() {
        int high = dice.from(12, 40);
        for (int h = 0; h < 14; h++) {
            tide(h, dice.below(4) == 0 ? dice.below(high) : dice.below(10));
        }
        rainAtTimes(14, 12);
        rule(3, dice.from(3, 12));
        rule(4, dice.from(0, 120));
        tackles(4, 400);
        int seams = dice.from(3, 9);
        int handsMost = dice.from(2, 6);
        int hoursMost = dice.from(1, 4);
        for (int s = 0; s < seams; s++) {
            seam(dice.from(2, 10), dice.from(1, handsMost), dice.from(1, hoursMost), dice.from(0, 30), dice.from(1, 4));
        }
        int passed = dice.below(6);
        for (int i = 0; i < passed; i++) {
            heel(dice.below(4) == 0 ? -1 : 1);
            hour(dice.below(1 << seams) & dice.below(1 << seams));
        }
        if (dice.below(3) == 0) {
            rule(4, dice.from(0, 40));
        }
        for (int n = 1; n <= 6; n++) {
            for (int what = 0; what <= 3 + seams; what++) {
                is(model.plan(n, what), ship.plan(n, what), "plan(" + n + ", " + what + ")");
            }
            for (int i = 0; i <= n; i++) {
                is(model.orders(n, i), ship.orders(n, i), "orders(" + n + ", " + i + ")");
            }
        }
    }

    private void floats() {
        int low = dice.from(5, 30);
        int high = dice.from(low, 60);
        int length = dice.from(2, 6);
        for (int h = 0; h < 96; h++) {
            tide(h, h / length % 2 == 0 ? dice.below(low + 1) : dice.from(low, high));
        }
        rainAtTimes(24, 8);
        rule(0, dice.below(8));
        rule(1, dice.from(100, 300));
        rule(4, dice.from(20, 200));
        for (int m = 5; m < 8; m++) {
            rule(m, 1000);
        }
        tackles(dice.from(1, 6), dice.below(2) == 0 ? 60 : 300);
        int things = dice.below(13);
        for (int t = 0; t < things; t++) {
            int under = dice.below(2) == 0 ? -1 : dice.from(-1, t - 1);
            int weight = dice.below(3) == 0 ? 10 : dice.from(1, 60);
            is(model.thing(weight, under), ship.thing(weight, under), "thing");
        }
        int seams = dice.below(4);
        for (int s = 0; s < seams; s++) {
            seam(dice.from(4, 10), dice.from(1, 6), dice.from(1, 3), dice.from(0, 20), 5);
        }
        int direction = dice.below(2) == 0 ? 1 : -1;
        for (int i = dice.below(10); i >= 0; i--) {
            move(Math.max(0, things - 1 - dice.below(3)));
            for (int t = things - 1; t >= 0; t--) {
                if (dice.below(4) > 0) {
                    move(t);
                }
            }
            if (dice.below(2) == 0) {
                heel(direction);
            }
            hour(dice.below(1 << seams));
        }
        rule(2, Math.min(2000, model.ship(0) + dice.from(-20, 60)));
        for (int i = 0; i < 3; i++) {
            for (int what = -1; what <= 3; what++) {
                is(model.toFloat(what), ship.toFloat(what), "toFloat(" + what + ")");
            }
            is(model.ship(5), ship.ship(5), "ship(5)");
            rule(2, Math.max(0, model.ship(0) + dice.from(-40, 120)));
            move(dice.below(things + 1));
            if (i > 0) {
                hour(dice.below(1 << seams));
            }
        }
    }
}
