/** Numbers that fall as if by chance, and the same ones every time. */
final class Dice {
    private long seed;

    Dice(long first) {
        seed = first * 7919L + 17;
        below(2);
    }

    int below(int n) {
        seed = seed * 6364136223846793005L + 1442695040888963407L;
        return (int) ((seed >>> 33) % n);
    }

    int from(int least, int most) {
        return least + below(most - least + 1);
    }

    long bits() {
        below(2);
        return seed;
    }
}
