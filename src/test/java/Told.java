import java.util.function.Supplier;
import java.util.function.ToIntFunction;

/**
 * All that a ship can be asked, as one text: two ships with the same text stand alike. To tell it uses a ship up: what
 * is laid can only be read by laying something else, and whether THE BOAT was used only by using it. It makes 380 calls
 * at most, of the 512 that an object has.
 */
final class Told {
    private static final int[] RULE_FOR_READING = {0, 100, 0, 20, 500, 1000, 1000, 1000};

    private final BeachedShip ship;
    private final StringBuilder text = new StringBuilder();

    private Told(BeachedShip x) {
        ship = x;
    }

    static String of(BeachedShip x) {
        Told told = new Told(x);
        told.asks();
        told.reads();
        told.tries();
        return told.text.toString();
    }

    /** The call answers as it should on such a ship, which then stands like one that was not called at all. */
    static void refuses(int want, Supplier<BeachedShip> made, ToIntFunction<BeachedShip> call, String what) {
        BeachedShip x = made.get();
        Due.is(want, call.applyAsInt(x), what);
        String then = of(x);
        String before = of(made.get());
        Due.holds(then.equals(before), what + ": nothing changes; was" + before + ", is" + then);
    }

    private void put(String call, int answer) {
        text.append(' ').append(call).append('=').append(answer);
    }

    private void asks() {
        for (int w = 0; w < 8; w++) {
            put("ship" + w, ship.ship(w));
        }
        for (int w = 0; w < 9; w++) {
            put("count" + w, ship.count(w));
        }
        for (int w = 0; w < 6; w++) {
            put("book" + w, ship.book(w));
        }
        int tackles = ship.count(2);
        int seams = ship.count(4);
        for (int w = 0; w < 4; w++) {
            put("worm" + w, ship.worm(30, w));
            for (int t = 0; t < tackles; t++) {
                put("tackle" + t, ship.tackleTold(t, w));
            }
            for (int s = 0; s < seams; s++) {
                put("seam" + s, ship.seamTold(s, w));
            }
        }
        for (int w = 0; w < 3; w++) {
            put("plan" + w, ship.plan(6, w));
            put("float" + w, ship.toFloat(w));
        }
        put("dry", ship.greatest(false));
        put("wet", ship.greatest(true));
    }

    private void reads() {
        for (int h = 0; h < 96; h++) {
            put("tide" + h, ship.tide(h, 0));
            put("rain" + h, ship.rain(h, false));
        }
        for (int p = 0; p < 30; p++) {
            put("tap" + p, ship.tap(p, 0));
        }
        for (int w = 0; w < RULE_FOR_READING.length; w++) {
            put("rule" + w, ship.rule(w, RULE_FOR_READING[w]));
        }
    }

    private void tries() {
        put("heel", ship.heel(1));
        put("heel", ship.heel(-1));
        int things = ship.count(0);
        for (int t = 0; t < things; t++) {
            put("move" + t, ship.move(t));
        }
        put("hour", ship.hour(0));
        for (int i = 0; i < 4; i++) {
            put("back", ship.back());
            put("total", ship.ship(0));
            put("heel", ship.ship(2));
            put("water", ship.ship(4));
            put("seams", ship.count(4));
            put("hour", ship.count(7));
        }
    }
}
