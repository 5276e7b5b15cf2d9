/** Promises 1 and 2: a new object, and how many chips there are. */
public final class NewObjectTest {
    public static void main(String[] args) {
        chipsAreTheNearest();
        blocksAreTheNearest();
        capacityIsTheNearest();
        debounceIsTheNearest();
        everyIsTheNearest();
        allIsAsAtFirst();
        Expect.end();
    }

    private static void chipsAreTheNearest() {
        int[][] rows = {{1, 1}, {2, 2}, {3, 3}, {4, 4}, {0, 1}, {-7, 1}, {5, 4},
            {Integer.MAX_VALUE, 4}, {Integer.MIN_VALUE, 1}};
        for (int[] row : rows) {
            CellKeeper x = new CellKeeper(row[0], 2, 1, 1, 1);
            Expect.same("chips of " + row[0], x.chips(), row[1]);
            Expect.same("bleeding of the last chip", x.bleeding(row[1] - 1), 0);
            Expect.index("bleeding behind the last chip", () -> x.bleeding(row[1]));
        }
    }

    private static void blocksAreTheNearest() {
        int[][] rows = {{2, 2}, {16, 16}, {1, 2}, {0, 2}, {17, 16}, {Integer.MAX_VALUE, 16}, {Integer.MIN_VALUE, 2}};
        for (int[] row : rows) {
            CellKeeper x = new CellKeeper(1, row[0], 1, 1, 1);
            for (int i = 0; i < 32 * row[1]; i += 31) {
                Expect.same("byte " + i + " of a new journal", x.journal(i), 0);
            }
            Expect.index("behind a journal of " + row[0], () -> x.journal(32 * row[1]));
        }
    }

    private static void capacityIsTheNearest() {
        int[][] rows = {{1, 100}, {4000, 400000}, {0, 100}, {-1, 100}, {4001, 400000}, {37, 3700},
            {Integer.MAX_VALUE, 400000}, {Integer.MIN_VALUE, 100}};
        for (int[] row : rows) {
            CellKeeper x = new CellKeeper(1, 2, row[0], 1, 1);
            x.set(row[1]);
            Expect.near("a full charge", x.charge(), row[1]);
            Expect.argument("more than capacity " + row[0], () -> x.set(row[1] + 0.125));
        }
    }

    private static void debounceIsTheNearest() {
        int[][] rows = {{1, 1}, {20, 20}, {0, 1}, {21, 20}, {7, 7}, {Integer.MAX_VALUE, 20}, {Integer.MIN_VALUE, 1}};
        for (int[] row : rows) {
            CellKeeper x = new CellKeeper(1, 2, 1, row[0], 50);
            for (int tick = 1; tick <= 22; tick++) {
                x.tick(1);
                Expect.same("debounce " + row[0] + ", faults behind tick " + tick, x.faults(), tick >= row[1] ? 1 : 0);
            }
        }
    }

    private static void everyIsTheNearest() {
        int[][] rows = {{1, 1}, {50, 50}, {0, 1}, {51, 50}, {9, 9}, {Integer.MAX_VALUE, 50}, {Integer.MIN_VALUE, 1}};
        for (int[] row : rows) {
            CellKeeper x = new CellKeeper(1, 2, 1, 20, row[0]);
            int written = 0;
            for (int tick = 1; tick <= 52; tick++) {
                Bench.level(x, 3700);
                x.tick(1);
                written += tick % row[1] == 0 ? 1 : 0;
                int newest = Math.max(x.journal(0), x.journal(32));
                Expect.same("every " + row[0] + ", blocks behind tick " + tick, newest, written);
            }
        }
    }

    private static void allIsAsAtFirst() {
        CellKeeper x = new CellKeeper(4, 2, 10, 1, 50);
        Expect.same("off", x.off(), false);
        Expect.same("time", x.time(), 0);
        Expect.near("charge", x.charge(), 0);
        Expect.same("percent", x.percent(), 0);
        Expect.near("through", x.through(), 0);
        Expect.near("to be given", x.allowed(false), 0);
        Expect.near("to be taken", x.allowed(true), 0);
        Expect.same("faults", x.faults(), 0);
        for (int cause = 0; cause < 7; cause++) {
            Expect.same("count", x.count(cause), 0);
        }
        for (int chip = 0; chip < 4; chip++) {
            Expect.same("bleeding", x.bleeding(chip), 0);
            for (int cell = 0; cell < 6; cell++) {
                Expect.same("valid", x.valid(chip, cell), false);
            }
        }
        Bench.level(x, 3700);
        x.set(500);
        Expect.same("not wanted: it stays open", x.tick(5), 0);
        Expect.near("no current", x.charge(), 500);
        Expect.near("20 degrees", x.allowed(false), 300);
        Expect.near("20 degrees", x.allowed(true), 150);
        x.want(true);
        Expect.same("no bus: it doesn't close", x.tick(5), 2);
    }
}
