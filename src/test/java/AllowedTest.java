/** Promises 6 and 19: what currents are allowed. */
public final class AllowedTest {
    public static void main(String[] args) {
        heat();
        cold();
        charge();
        theLeastCounts();
        onlyTicksTell();
        Expect.end();
    }

    private static void due(String what, CellKeeper x, int given, int taken) {
        x.tick(1);
        Expect.near(what + ", to be given", x.allowed(false), 300 * given / 64.0);
        Expect.near(what + ", to be taken", x.allowed(true), 150 * taken / 64.0);
    }

    private static CellKeeper half(int chips) {
        CellKeeper x = new CellKeeper(chips, 2, 10, 20, 50);
        x.set(500);
        return x;
    }

    private static void heat() {
        double[][] rows = {{45, 64}, {45.125, 63}, {45.25, 63}, {45.375, 62}, {50, 44}, {60, 4}, {60.5, 2},
            {60.75, 1}, {60.875, 0}, {61, 0}, {61.125, 0}, {200, 0}, {10, 64}};
        for (double[] row : rows) {
            CellKeeper x = half(3);
            x.warm(1, row[0]);
            due("heat of " + row[0], x, (int) row[1], (int) row[1]);
        }
    }

    private static void cold() {
        double[][] rows = {{10, 64}, {9.875, 63}, {9.5, 63}, {9.375, 62}, {0, 44}, {-0.125, 43}, {-10.25, 23},
            {-21.5, 1}, {-21.625, 0}, {-22, 0}, {-22.125, 0}, {-100, 0}};
        for (double[] row : rows) {
            CellKeeper x = half(3);
            x.warm(2, row[0]);
            due("cold of " + row[0], x, (int) row[1], (int) row[1]);
        }
    }

    private static void charge() {
        double[][] rows = {{0, 0}, {0.125, 0}, {1.875, 0}, {2, 1}, {3.875, 1}, {62.375, 31}, {62.5, 32},
            {124.875, 63}, {125, 64}, {500, 64}};
        for (double[] row : rows) {
            CellKeeper x = new CellKeeper(1, 2, 10, 20, 50);
            x.set(row[0]);
            due("a charge of " + row[0], x, (int) row[1], 64);
            x.set(1000 - row[0]);
            due("a lack of " + row[0], x, 64, (int) row[1]);
        }
        CellKeeper x = new CellKeeper(1, 2, 3, 20, 50);
        for (int k = 0; k < 64; k++) {
            double least = Math.ceil(300.0 * k / 512 * 8) / 8;
            x.set(least);
            due("the least charge for " + k, x, k, 64);
            x.set(300 - least);
            due("the least lack for " + k, x, 64, k);
        }
    }

    private static void theLeastCounts() {
        CellKeeper x = half(2);
        x.warm(0, 55);
        x.warm(1, -5);
        due("heat and cold", x, 24, 24);
        x.warm(1, -15);
        due("more cold", x, 14, 14);
        x.set(25);
        due("little charge", x, 12, 14);
        x.set(985);
        due("little room", x, 14, 7);
    }

    private static void onlyTicksTell() {
        CellKeeper x = half(1);
        Expect.near("without a tick", x.allowed(false), 0);
        x.tick(1);
        x.set(0);
        x.warm(0, 100);
        Expect.near("behind a tick", x.allowed(false), 300);
        x.power();
        Expect.near("power forgets", x.allowed(false), 0);
        Expect.near("power forgets", x.allowed(true), 0);
        CellKeeper drained = half(1);
        drained.current(499);
        due("the charge behind the tick's current", drained, 0, 64);
        CellKeeper dark = Bench.dark();
        Expect.state("allowed", () -> dark.allowed(true));
        Expect.state("allowed", () -> dark.allowed(false));
    }
}
