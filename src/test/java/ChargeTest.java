/** Promises 9, 15 to 18: time, charge, percent, through, and what a rest tells of the charge. */
public final class ChargeTest {
    public static void main(String[] args) {
        currentsMoveCharge();
        percentIsFloored();
        throughLosesTenThousand();
        restTellsCharge();
        restNeedsSixtyTicks();
        restNeedsAllCells();
        withoutPower();
        Expect.end();
    }

    private static void currentsMoveCharge() {
        CellKeeper x = new CellKeeper(1, 2, 10, 20, 50);
        x.set(100);
        x.current(12.125);
        x.tick(3);
        Expect.near("given", x.charge(), 63.625);
        x.tick(6);
        Expect.near("not below 0", x.charge(), 0);
        x.current(-400.5);
        x.tick(2);
        Expect.near("taken", x.charge(), 801);
        x.tick(1);
        Expect.near("not above capacity", x.charge(), 1000);
        Expect.near("through", x.through(), 9 * 12.125 + 3 * 400.5);
        Expect.same("time", x.time(), 12);
    }

    private static void percentIsFloored() {
        int[] capacities = {1, 3, 7, 33, 100, 999, 4000};
        for (int capacity : capacities) {
            CellKeeper x = new CellKeeper(1, 2, capacity, 20, 50);
            for (int percent = 0; percent <= 100; percent++) {
                x.set(capacity * percent);
                Expect.same("just " + percent, x.percent(), percent);
                if (percent > 0) {
                    x.set(capacity * percent - 0.125);
                    Expect.same("just below " + percent, x.percent(), percent - 1);
                }
            }
        }
    }

    private static void throughLosesTenThousand() {
        CellKeeper x = new CellKeeper(1, 2, 10, 20, 50);
        x.current(-2000);
        x.tick(4);
        Expect.near("through", x.through(), 8000);
        x.current(1999.875);
        x.tick(1);
        Expect.near("through", x.through(), 9999.875);
        x.current(0.125);
        x.tick(1);
        Expect.near("it loses what it has", x.through(), 0);
        x.current(1500);
        x.tick(7);
        Expect.near("it loses what it has", x.through(), 500);
        x.power();
        Expect.near("power begins anew", x.through(), 0);
    }

    private static void restTellsCharge() {
        int[][] rows = {{2600, 0}, {3000, 0}, {3001, 0}, {3002, 0}, {3003, 1}, {3299, 101}, {3300, 102},
            {3301, 102}, {3302, 103}, {3499, 255}, {3500, 256}, {3575, 384}, {3649, 510}, {3650, 512},
            {3799, 715}, {3800, 717}, {3999, 920}, {4000, 922}, {4001, 922}, {4149, 1023}, {4150, 1024}, {4300, 1024}};
        for (int[] row : rows) {
            CellKeeper x = new CellKeeper(2, 2, 37, 20, 50);
            x.set(1234.5);
            Bench.run(x, row[0], 60);
            Expect.near("rest at " + row[0], x.charge(), 3700 * row[1] / 1024.0);
        }
        CellKeeper x = new CellKeeper(1, 2, 37, 20, 50);
        x.tick(55);
        Bench.tell(x, 0, 0, 3500, 3500, 3501, 3501, 3501, 3502);
        x.tick(5);
        Expect.near("the mean is floored", x.charge(), 3700 * 256 / 1024.0);
    }

    private static void restNeedsSixtyTicks() {
        CellKeeper x = new CellKeeper(1, 2, 100, 20, 50);
        x.set(5000);
        x.current(0.375);
        Bench.run(x, 3500, 59);
        Expect.near("59 ticks", x.charge(), 5000 - 59 * 0.375);
        Bench.run(x, 3500, 1);
        Expect.near("60 ticks", x.charge(), 2500);
        Bench.run(x, 3650, 1);
        Expect.near("61 ticks", x.charge(), 5000);
        x.current(-0.5);
        Bench.run(x, 3650, 1);
        Expect.near("a current of 0.5 is no rest", x.charge(), 5000.5);
        x.current(-0.375);
        Bench.run(x, 3650, 59);
        Expect.near("59 ticks more", x.charge(), 5000.5 + 59 * 0.375);
        Bench.run(x, 3650, 1);
        Expect.near("60 ticks more", x.charge(), 5000);
    }

    private static void restNeedsAllCells() {
        CellKeeper x = new CellKeeper(2, 2, 100, 20, 50);
        x.tick(70);
        Expect.near("stale chips tell nothing", x.charge(), 0);
        Bench.tell(x, 0, 0, 3650, 3650, 3650, 3650, 3650, 3650);
        x.tick(1);
        Expect.near("one chip tells nothing", x.charge(), 0);
        Bench.tell(x, 1, 8, 3650, 3650, 3650, 3650, 3650, 3650);
        x.tick(1);
        Expect.near("a cell that is not valid tells nothing", x.charge(), 0);
        Bench.tell(x, 1, 0, 3650, 3650, 3650, 3650, 3650, 3650);
        x.tick(1);
        Expect.near("all cells tell", x.charge(), 5000);
    }

    private static void withoutPower() {
        CellKeeper x = Bench.dark();
        Expect.state("time", () -> x.time());
        Expect.state("charge", () -> x.charge());
        Expect.state("percent", () -> x.percent());
        Expect.state("through", () -> x.through());
    }
}
