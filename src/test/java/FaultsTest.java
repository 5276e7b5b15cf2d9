/** Promises 11, 22 and 23: causes, their counts, faults, and how they go. */
public final class FaultsTest {
    public static void main(String[] args) {
        staleChips();
        invalidCells();
        cellsTooHighOrLow();
        tooHotOrCold();
        tooMuchCurrent();
        debounce();
        countsEndAt255();
        resets();
        wrongNumbers();
        Expect.end();
    }

    private static void counts(String what, CellKeeper x, int... due) {
        for (int cause = 0; cause < 7; cause++) {
            Expect.same(what + ", count of " + cause, x.count(cause), due[cause]);
        }
    }

    private static CellKeeper half(int chips) {
        CellKeeper x = new CellKeeper(chips, 2, 10, 20, 50);
        x.set(500);
        Bench.level(x, 3700);
        return x;
    }

    private static void staleChips() {
        CellKeeper x = new CellKeeper(2, 2, 10, 20, 50);
        x.set(500);
        x.tick(1);
        counts("never a reply", x, 1, 0, 0, 0, 0, 0, 0);
        Bench.tell(x, 0, 0, 3700, 3700, 3700, 3700, 3700, 3700);
        x.tick(1);
        counts("one chip", x, 2, 0, 0, 0, 0, 0, 0);
        Bench.level(x, 3700);
        x.tick(10);
        counts("both chips", x, 0, 0, 0, 0, 0, 0, 0);
        x.tick(2);
        counts("both chips too old", x, 2, 0, 0, 0, 0, 0, 0);
    }

    private static void invalidCells() {
        CellKeeper x = half(2);
        Bench.tell(x, 1, 32, 3700, 3700, 3700, 3700, 3700, 3700);
        x.tick(3);
        counts("a marked cell", x, 0, 3, 0, 0, 0, 0, 0);
        Bench.tell(x, 1, 0, 3700, 3700, 499, 3700, 3700, 3700);
        x.tick(7);
        counts("a cell of 499 is not valid, so not too low", x, 0, 10, 0, 0, 0, 0, 0);
        Bench.tell(x, 0, 0, 3700, 3700, 3700, 3700, 3700, 3700);
        x.tick(4);
        counts("a stale chip's cells don't count", x, 1, 0, 0, 0, 0, 0, 0);
    }

    private static void cellsTooHighOrLow() {
        CellKeeper x = half(2);
        Bench.tell(x, 1, 0, 4200, 2500, 3700, 3700, 3700, 3700);
        x.tick(2);
        counts("at the bounds", x, 0, 0, 0, 0, 0, 0, 0);
        Bench.tell(x, 1, 0, 4201, 2500, 3700, 3700, 3700, 3700);
        x.tick(2);
        counts("4201", x, 0, 0, 2, 0, 0, 0, 0);
        Bench.tell(x, 1, 0, 4200, 2499, 3700, 3700, 3700, 3700);
        x.tick(2);
        counts("2499", x, 0, 0, 0, 2, 0, 0, 0);
        Bench.tell(x, 1, 3, 4999, 500, 3700, 3700, 3700, 3700);
        x.tick(1);
        counts("marked ones", x, 0, 1, 0, 0, 0, 0, 0);
        Bench.tell(x, 1, 0, 4999, 500, 3700, 3700, 3700, 3700);
        x.tick(1);
        counts("both", x, 0, 0, 1, 1, 0, 0, 0);
    }

    private static void tooHotOrCold() {
        CellKeeper x = half(2);
        x.warm(1, 60);
        x.warm(0, -30);
        x.tick(2);
        counts("at the bounds", x, 0, 0, 0, 0, 0, 0, 0);
        x.warm(1, 60.125);
        x.tick(2);
        counts("too hot", x, 0, 0, 0, 0, 2, 0, 0);
        x.warm(0, -30.125);
        x.tick(2);
        counts("too cold, too", x, 0, 0, 0, 0, 4, 2, 0);
        x.warm(1, 20);
        x.tick(1);
        counts("too cold", x, 0, 0, 0, 0, 0, 3, 0);
    }

    private static void tooMuchCurrent() {
        double[][] rows = {{310, 0}, {310.125, 1}, {-160, 0}, {-160.125, 1}, {0, 0}};
        for (double[] row : rows) {
            CellKeeper x = new CellKeeper(1, 2, 100, 20, 50);
            x.set(5000);
            Bench.level(x, 3700);
            x.current(row[0]);
            x.tick(1);
            counts("a current of " + row[0], x, 0, 0, 0, 0, 0, 0, (int) row[1]);
        }
        CellKeeper full = new CellKeeper(1, 2, 100, 20, 50);
        full.set(10000);
        Bench.level(full, 3700);
        full.current(-10);
        full.tick(1);
        counts("10 above nothing", full, 0, 0, 0, 0, 0, 0, 0);
        full.current(-10.125);
        full.tick(2);
        counts("more than 10 above nothing", full, 0, 0, 0, 0, 0, 0, 2);
    }

    private static void debounce() {
        CellKeeper x = new CellKeeper(1, 2, 10, 3, 50);
        x.set(500);
        Bench.level(x, 3700);
        x.warm(0, 70);
        x.tick(2);
        Expect.same("two of three", x.faults(), 0);
        x.warm(0, 20);
        x.tick(1);
        x.warm(0, 70);
        x.tick(2);
        Expect.same("two of three again", x.faults(), 0);
        x.tick(1);
        Expect.same("three", x.faults(), 16);
        x.warm(0, 20);
        x.tick(1);
        Expect.same("it stays", x.faults(), 16);
        Bench.tell(x, 0, 4, 4300, 2400, 3700, 3700, 3700, 3700);
        x.warm(0, -40);
        x.current(400);
        x.tick(3);
        Expect.same("all but the stale one", x.faults(), 2 + 4 + 8 + 16 + 32 + 64);
    }

    private static void countsEndAt255() {
        CellKeeper x = new CellKeeper(1, 2, 10, 20, 50);
        x.tick(100);
        x.tick(100);
        x.tick(54);
        Expect.same("254", x.count(0), 254);
        x.tick(1);
        Expect.same("255", x.count(0), 255);
        x.tick(3);
        Expect.same("no more", x.count(0), 255);
        Bench.level(x, 3700);
        x.tick(1);
        Expect.same("else 0", x.count(0), 0);
    }

    private static void resets() {
        CellKeeper x = new CellKeeper(1, 2, 10, 1, 50);
        for (int fault = 0; fault < 9; fault++) {
            Expect.same("none is latched", x.reset(fault), false);
        }
        x.set(500);
        x.tick(1);
        Expect.same("its count is not 0", x.reset(0), false);
        Expect.same("it stays", x.faults(), 1);
        Bench.level(x, 3700);
        Expect.same("its count is not 0 before a tick", x.reset(0), false);
        x.tick(1);
        Expect.same("another one", x.reset(4), false);
        Expect.same("it goes", x.reset(0), true);
        Expect.same("none", x.faults(), 0);
        Expect.same("it has gone", x.reset(0), false);

        CellKeeper y = new CellKeeper(1, 2, 10, 20, 50);
        Bench.forge(y, 0, Bench.block(1, 5, 0, 0x1FF, 3));
        y.power();
        int left = 0x1FF;
        for (int fault = 8; fault >= 0; fault--) {
            Expect.same("it goes", y.reset(fault), true);
            left -= 1 << fault;
            Expect.same("the others stay", y.faults(), left);
        }
        onlyOpenResetsPrecharge();
    }

    private static void onlyOpenResetsPrecharge() {
        CellKeeper x = new CellKeeper(1, 2, 10, 20, 50);
        x.set(500);
        x.want(true);
        Expect.same("not precharged", Bench.run(x, 3700, 33), 4);
        Expect.same("not precharged", x.faults(), 128);
        Expect.same("not open", x.reset(7), false);
        Bench.level(x, 3700);
        Expect.same("opening", x.tick(2), 4);
        Expect.same("not open", x.reset(7), false);
        Expect.same("open", x.tick(1), 0);
        Expect.same("open", x.reset(7), true);
        Expect.same("gone", x.faults(), 0);
    }

    private static void wrongNumbers() {
        CellKeeper x = new CellKeeper(1, 2, 10, 20, 50);
        CellKeeper dark = Bench.dark();
        for (int bad : new int[] {-1, 9, Integer.MAX_VALUE, Integer.MIN_VALUE}) {
            Expect.index("reset", () -> x.reset(bad));
            Expect.index("reset without power", () -> dark.reset(bad));
        }
        for (int bad : new int[] {-1, 7, 8, Integer.MAX_VALUE, Integer.MIN_VALUE}) {
            Expect.index("count", () -> x.count(bad));
            Expect.index("count without power", () -> dark.count(bad));
        }
        Expect.state("reset", () -> dark.reset(8));
        Expect.state("count", () -> dark.count(6));
        Expect.state("faults", () -> dark.faults());
    }
}
