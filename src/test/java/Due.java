/** Counts answers that are as due, and prints those that are not. */
final class Due {
    private static final int MOST_PRINTED = 60;
    static int passed = 0;
    static int failed = 0;

    private Due() {
    }

    static void is(long want, long got, String what) {
        if (got == want) {
            passed++;
            return;
        }
        failed++;
        if (failed <= MOST_PRINTED) {
            System.out.println(what + ": answered " + got + ", due is " + want);
        }
    }

    static void holds(boolean b, String what) {
        is(1, b ? 1 : 0, what);
    }
}
