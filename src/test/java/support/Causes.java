/** Makes the causes of faults, one at a time. */
final class Causes {
    private Causes() {
    }

    /** A cause is so, or not, from the next tick on. */
    static void make(CellKeeper x, int cause, boolean so) {
        x.set(500);
        x.warm(0, so && cause == 4 ? 70 : so && cause == 5 ? -40 : 20);
        x.current(so && cause == 6 ? 400 : 0);
        int number = so && cause == 2 ? 4300 : so && cause == 3 ? 2400 : 3700;
        if (!so || cause != 0) {
            Bench.tell(x, 0, so && cause == 1 ? 1 : 0, 3700, 3700, 3700, 3700, 3700, number);
        }
    }
}
