/** Promise 21: which cells bleed. */
public final class BleedingTest {
    public static void main(String[] args) {
        cellsTakeTurns();
        bounds();
        theLeastOfAllChips();
        statesThatBleed();
        faultsAndCurrents();
        wrongChips();
        Expect.end();
    }

    private static CellKeeper with(int... numbers) {
        CellKeeper x = new CellKeeper(1, 2, 10, 20, 50);
        x.set(500);
        Bench.tell(x, 0, 0, numbers);
        return x;
    }

    private static void cellsTakeTurns() {
        CellKeeper x = with(3500, 3600, 3600, 3600, 3600, 3600);
        Expect.same("before a tick", x.bleeding(0), 0);
        x.tick(1);
        Expect.same("time 1", x.bleeding(0), 2 + 8 + 32);
        x.tick(1);
        Expect.same("time 2", x.bleeding(0), 4 + 16);
        Bench.tell(x, 0, 0, 3600, 3600, 3600, 3600, 3600, 3500);
        Expect.same("only a tick changes it", x.bleeding(0), 4 + 16);
        x.tick(1);
        Expect.same("time 3", x.bleeding(0), 2 + 8);
        x.tick(1);
        Expect.same("time 4", x.bleeding(0), 1 + 4 + 16);
        x.power();
        Expect.same("power ends it", x.bleeding(0), 0);

        CellKeeper before = new CellKeeper(1, 2, 10, 20, 50);
        Bench.forge(before, 0, Bench.block(1, -8, 500 * 8192, 0, 0));
        before.power();
        Bench.tell(before, 0, 0, 3500, 3600, 3600, 3600, 3600, 3600);
        before.tick(1);
        Expect.same("time -7", before.bleeding(0), 2 + 8 + 32);
        before.tick(1);
        Expect.same("time -6", before.bleeding(0), 4 + 16);
    }

    private static void bounds() {
        CellKeeper x = with(3290, 3300, 3290, 3301, 3290, 3299);
        x.tick(1);
        Expect.same("above 3300", x.bleeding(0), 8);
        CellKeeper y = with(3500, 3508, 3500, 3509, 3500, 3507);
        y.tick(1);
        Expect.same("more than 8 above", y.bleeding(0), 8);
        CellKeeper z = with(3500, 3600, 3500, 5000, 3500, 3600);
        z.tick(1);
        Expect.same("valid ones", z.bleeding(0), 2 + 32);
        z.tick(11);
        Expect.same("stale ones", z.bleeding(0), 0);
    }

    private static void theLeastOfAllChips() {
        CellKeeper x = new CellKeeper(3, 2, 10, 20, 50);
        x.set(500);
        Bench.tell(x, 0, 0, 3600, 3600, 3600, 3600, 3600, 3600);
        Bench.tell(x, 1, 1, 499, 3620, 3620, 3620, 3620, 3620);
        Bench.tell(x, 2, 2, 3590, 1000, 3595, 3600, 3590, 3700);
        x.tick(1);
        Expect.same("chip 0", x.bleeding(0), 2 + 8 + 32);
        Expect.same("chip 1", x.bleeding(1), 2 + 8 + 32);
        Expect.same("chip 2", x.bleeding(2), 8 + 32);
        x.tick(1);
        Expect.same("chip 0", x.bleeding(0), 1 + 4 + 16);
        Expect.same("chip 1", x.bleeding(1), 4 + 16);
        Expect.same("chip 2", x.bleeding(2), 0);
    }

    private static void statesThatBleed() {
        CellKeeper x = with(3600, 3700, 3600, 3700, 3700, 3600);
        x.want(true);
        x.bus(21900);
        int[] states = {1, 1, 2, 3, 3};
        for (int i = 0; i < states.length; i++) {
            int due = states[i] == 3 ? (i % 2 == 0 ? 2 + 8 : 16) : 0;
            Expect.same("state", x.tick(1), states[i]);
            Expect.same("bleeding in state " + states[i], x.bleeding(0), due);
        }
        x.want(false);
        x.bus(0);
        for (int i = 0; i < 3; i++) {
            Expect.same("opening", x.tick(1), 4);
            Expect.same("bleeding while opening", x.bleeding(0), 0);
        }
        Expect.same("open", x.tick(1), 0);
        Expect.same("bleeding, open", x.bleeding(0), 2 + 8);
    }

    private static void faultsAndCurrents() {
        double[][] rows = {{1.875, 10}, {2, 0}, {-1.875, 10}, {-2, 0}};
        for (double[] row : rows) {
            CellKeeper x = with(3600, 3700, 3600, 3700, 3700, 3600);
            x.current(row[0]);
            x.tick(1);
            Expect.same("a current of " + row[0], x.bleeding(0), (int) row[1]);
        }
        for (int fault = 0; fault < 9; fault++) {
            CellKeeper x = new CellKeeper(1, 2, 10, 20, 50);
            Bench.forge(x, 0, Bench.block(1, 0, 500 * 8192, 1 << fault, 0));
            x.power();
            Bench.tell(x, 0, 0, 3600, 3700, 3600, 3700, 3700, 3600);
            x.tick(1);
            Expect.same("fault " + fault, x.bleeding(0), fault == 1 || fault == 5 ? 10 : 0);
        }
    }

    private static void wrongChips() {
        CellKeeper x = new CellKeeper(2, 2, 10, 20, 50);
        CellKeeper dark = Bench.dark();
        for (int bad : new int[] {-1, 2, Integer.MAX_VALUE, Integer.MIN_VALUE}) {
            Expect.index("bleeding", () -> x.bleeding(bad));
            Expect.index("bleeding without power", () -> dark.bleeding(bad));
        }
        Expect.state("bleeding", () -> dark.bleeding(1));
    }
}
