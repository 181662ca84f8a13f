/** The calls that README.md shows answer as it says there. */
final class ReadmeTests {
    private ReadmeTests() {
    }

    static void all() {
        BeachedShip ship = new BeachedShip();
        Due.is(4, ship.tides(0, 4, 0x1E19140FL), "README: tides");
        int seam = ship.seam(8, 0, 3, 2, 10, 20);
        Due.is(0, seam, "README: seam");
        Due.is(20, ship.plan(3, 0), "README: plan");
        for (int left = 3; left > 0; left--) {
            Due.is(0, ship.hour(ship.orders(left, 0)), "README: hour");
        }
        Due.is(2, ship.seamTold(seam, 0), "README: seamTold");
        Due.is(1, ship.ship(5), "README: SHE FLOATS");
        keptAndBroughtBack(ship);
    }

    private static void keptAndBroughtBack(BeachedShip ship) {
        Due.is(1, ship.keep(), "README: keep");
        Due.is(0, ship.tackle(1, 3, 60), "README: tackle");
        Due.is(4, ship.greatest(false), "README: greatest");
        Due.is(3, ship.greatest(true), "README: greatest in RAIN");
        Due.is(1, ship.heel(1), "README: heel");
        Due.is(4, ship.toFloat(0), "README: toFloat");
        Due.is(0, ship.back(), "README: back");
        Due.is(0, ship.count(2), "README: count");
    }
}
