/** Promises 12 to 15, 24 and 25: the journal, cuts, power, and spoiled bytes. */
public final class JournalTest {
    public static void main(String[] args) {
        blocksAreWritten();
        newFaultsAreWritten();
        everyCutIsOutlived();
        cutsAreForgotten();
        powerBeginsAnew();
        theGreatestRightBlockIsTaken();
        numbersAndPlaces();
        chargesAreBounded();
        timeWraps();
        spoiling();
        wrongBytes();
        Expect.end();
    }

    private static void blocksAreWritten() {
        CellKeeper x = new CellKeeper(1, 3, 10, 20, 5);
        x.set(1000);
        x.current(0.625);
        Bench.run(x, 3700, 4);
        Expect.same("nothing yet", x.journal(0), 0);
        Bench.run(x, 3700, 1);
        Bench.sameBlock("block 1", x, 0, Bench.block(1, 5, (long) (996.875 * 8192), 0, 0));
        Expect.same("nothing more", x.journal(32), 0);
        x.want(true);
        x.bus(1000000);
        Bench.run(x, 3700, 13);
        Bench.sameBlock("block 2", x, 1, Bench.block(2, 10, (long) (993.75 * 8192), 0, 3));
        Bench.sameBlock("block 3", x, 2, Bench.block(3, 15, (long) (990.625 * 8192), 0, 3));
        Bench.run(x, 3700, 2);
        Bench.sameBlock("block 4", x, 0, Bench.block(4, 20, (long) (987.5 * 8192), 0, 3));
        Bench.sameBlock("block 2 stays", x, 1, Bench.block(2, 10, (long) (993.75 * 8192), 0, 3));
    }

    private static void newFaultsAreWritten() {
        CellKeeper x = new CellKeeper(1, 4, 10, 2, 50);
        x.set(500);
        x.want(true);
        x.tick(1);
        Expect.same("no fault yet", x.journal(0), 0);
        x.tick(1);
        Bench.sameBlock("a stale chip", x, 0, Bench.block(1, 2, 500 * 8192, 1, 4));
        x.tick(5);
        Expect.same("only new faults are written", x.journal(32), 0);
        Bench.level(x, 3700);
        x.tick(1);
        Expect.same("gone", x.reset(0), true);
        Expect.same("a reset is not written", x.journal(32), 0);
        x.tick(12);
        Bench.sameBlock("a stale chip again", x, 1, Bench.block(2, 19, 500 * 8192, 1, 4));

        CellKeeper y = new CellKeeper(1, 4, 10, 20, 50);
        y.set(500);
        y.want(true);
        Bench.run(y, 3700, 32);
        Expect.same("no fault yet", y.journal(0), 0);
        y.bus(20000);
        Bench.run(y, 3700, 1);
        Bench.sameBlock("fault 7", y, 0, Bench.block(1, 33, 500 * 8192, 128, 4));
        Bench.run(y, 3700, 3);
        Bench.sameBlock("fault 8", y, 1, Bench.block(2, 36, 500 * 8192, 128 + 256, 0));
        Bench.run(y, 3700, 10);
        Expect.same("no more", y.journal(64), 0);
    }

    private static void everyCutIsOutlived() {
        for (int n = 0; n <= 32; n++) {
            CellKeeper x = new CellKeeper(1, 2, 10, 20, 1);
            x.set(500);
            x.current(1);
            x.tick(3);
            byte[] old = Bench.block(2, 2, 498 * 8192, 0, 0);
            byte[] due = Bench.block(4, 4, 496 * 8192, 0, 0);
            Bench.sameBlock("before the cut", x, 1, old);
            System.arraycopy(old, n, due, n, 32 - n);
            x.cut(n);
            Expect.same("the state then", x.tick(1), 0);
            Bench.sameBlock("a cut behind " + n, x, 1, due);
            Expect.same("off", x.off(), n < 32);
            // Behind all but the check's last byte the block is whole if that byte is the same.
            boolean whole = n == 32 || java.util.Arrays.equals(due, Bench.block(4, 4, 496 * 8192, 0, 0));
            Expect.same("time behind a cut of " + n, x.power(), whole ? 4 : 3);
            Expect.near("charge behind a cut of " + n, x.charge(), whole ? 496 : 497);
            Expect.same("on", x.off(), false);
        }
    }

    private static void cutsAreForgotten() {
        CellKeeper x = new CellKeeper(1, 2, 10, 20, 2);
        x.cut(5);
        x.cut(32);
        x.tick(2);
        Expect.same("with 32 none is cut", x.off(), false);
        x.cut(5);
        x.tick(1);
        Expect.same("no block yet", x.off(), false);
        Expect.same("power comes without the cut", x.power(), 2);
        x.tick(2);
        Expect.same("no cut", x.off(), false);
        x.cut(7);
        x.cut(0);
        x.tick(1);
        Expect.same("no block", x.off(), false);
        x.tick(100);
        Expect.same("no more ticks", x.power(), 4);

        CellKeeper closed = new CellKeeper(1, 2, 10, 20, 8);
        closed.set(500);
        Bench.level(closed, 3700);
        closed.want(true);
        closed.bus(1000000);
        closed.tick(4);
        closed.cut(20);
        Expect.same("the state when power went", closed.tick(100), 3);
    }

    private static void powerBeginsAnew() {
        CellKeeper x = new CellKeeper(1, 2, 10, 2, 4);
        x.set(500);
        Bench.level(x, 3700);
        x.want(true);
        x.bus(22200);
        x.warm(0, 50);
        x.current(1);
        Expect.same("closed", x.tick(5), 3);
        Expect.same("the latest block", x.power(), 4);
        Expect.near("charge of the block", x.charge(), 496);
        Expect.near("through", x.through(), 0);
        Expect.near("allowed", x.allowed(false), 0);
        Expect.same("valid", x.valid(0, 0), false);
        Bench.level(x, 3700);
        Expect.same("not wanted, open", x.tick(1), 0);
        Expect.near("no current", x.charge(), 496);
        Expect.near("20 degrees", x.allowed(false), 300);
        x.want(true);
        Expect.same("no bus", x.tick(4), 2);
        Bench.sameBlock("numbers go on", x, 1, Bench.block(2, 8, 496 * 8192, 0, 2));
        Expect.same("rest", x.time(), 9);

        CellKeeper y = new CellKeeper(1, 2, 10, 2, 4);
        y.set(500);
        y.tick(3);
        Expect.same("faults", y.faults(), 1);
        Expect.same("counts", y.count(0), 3);
        Expect.same("time of the block", y.power(), 2);
        Expect.same("the fault stays", y.faults(), 1);
        Expect.same("the counts do not", y.count(0), 0);
        Expect.near("charge stays", y.charge(), 500);
        Expect.same("so it can be reset", y.reset(0), true);

        CellKeeper none = new CellKeeper(1, 2, 10, 20, 50);
        none.set(500);
        none.tick(30);
        Expect.same("faults", none.faults(), 1);
        for (int i = 0; i < 64; i++) {
            none.spoil(i, none.journal(i));
        }
        Expect.same("no block", none.power(), 0);
        Expect.near("no charge", none.charge(), 0);
        Expect.same("no faults", none.faults(), 0);
        none.set(7);
        none.tick(20);
        Bench.sameBlock("numbers begin with 1", none, 0, Bench.block(1, 20, 7 * 8192, 1, 0));
    }

    private static void theGreatestRightBlockIsTaken() {
        CellKeeper x = new CellKeeper(1, 4, 10, 20, 50);
        Bench.forge(x, 0, Bench.block(5, 50, 5 * 8192, 5, 1));
        Bench.forge(x, 1, Bench.block(6, 40, 6 * 8192, 0xFFFF, 2));
        Bench.forge(x, 2, Bench.block(3, 90, 3 * 8192, 3, 3));
        Expect.same("the greatest number", x.power(), 40);
        Expect.near("its charge", x.charge(), 6);
        Expect.same("its faults, 0 .. 8", x.faults(), 0x1FF);
        for (int bit = 0; bit < 256; bit++) {
            x.spoil(32 + bit / 8, 1 << bit % 8);
            Expect.same("a wrong bit", x.power(), 50);
            x.spoil(32 + bit / 8, 1 << bit % 8);
            if (bit % 50 == 49) {
                x = new CellKeeper(1, 4, 10, 20, 50);
                Bench.forge(x, 0, Bench.block(5, 50, 5 * 8192, 5, 1));
                Bench.forge(x, 1, Bench.block(6, 40, 6 * 8192, 0xFFFF, 2));
            }
        }
        byte[] odd = Bench.block(6, 40, 6 * 8192, 0, 7);
        odd[31] = (byte) (odd[31] ^ 0x80);
        Bench.forge(x, 1, odd);
        Expect.same("a check with a sixteenth bit", x.power(), 50);
        byte[] filled = Bench.block(6, 41, 6 * 8192, 0, 7);
        filled[25] = 9;
        int check = Bench.check(filled, 0, 30);
        filled[30] = (byte) check;
        filled[31] = (byte) (check >> 8);
        Bench.forge(x, 1, filled);
        Expect.same("other bytes and states don't matter", x.power(), 41);
        Expect.same("it begins open", x.tick(1), 0);
    }

    private static void numbersAndPlaces() {
        CellKeeper x = new CellKeeper(1, 3, 10, 20, 1);
        Bench.forge(x, 0, Bench.block(2, 77, 0, 0, 0));
        Expect.same("not at its place", x.power(), 0);
        Bench.forge(x, 0, Bench.block(1000000003, 78, 0, 0, 0));
        Expect.same("a number too great", x.power(), 0);
        Bench.forge(x, 2, Bench.block(0, 79, 0, 0, 0));
        Expect.same("number 0", x.power(), 0);
        Bench.forge(x, 2, Bench.block(-3, 80, 0, 0, 0));
        Bench.forge(x, 1, Bench.block(-1, 80, 0, 0, 0));
        Expect.same("numbers below", x.power(), 0);

        CellKeeper y = new CellKeeper(1, 3, 10, 20, 1);
        Bench.forge(y, 0, Bench.block(1000000000, 81, 8192, 0, 0));
        Expect.same("the greatest number", y.power(), 81);
        y.tick(2);
        Bench.sameBlock("beyond it", y, 1, Bench.block(1000000001, 82, 8192, 0, 0));
        Bench.sameBlock("beyond it", y, 2, Bench.block(1000000002, 83, 8192, 0, 0));
        Expect.same("power doesn't take those", y.power(), 81);
        y.tick(3);
        Expect.same("the greatest number is overwritten", y.power(), 0);
        y.tick(1);
        Expect.same("numbers begin with 1", y.journal(0), 1);
    }

    private static void chargesAreBounded() {
        long[][] rows = {{0, 0}, {1, 1}, {1000 * 8192, 8192000}, {8192001, 8192000}, {-1, 0}, {Long.MIN_VALUE, 0},
            {Long.MAX_VALUE, 8192000}, {1234567, 1234567}, {1L << 32, 8192000}, {-(1L << 32), 0}};
        for (long[] row : rows) {
            CellKeeper x = new CellKeeper(1, 2, 10, 20, 2);
            Bench.forge(x, 1, Bench.block(2, 1, row[0], 0, 0));
            x.power();
            Expect.near("parts " + row[0], x.charge(), row[1] / 8192.0);
            x.tick(1);
            Bench.sameBlock("its next block", x, 0, Bench.block(3, 2, row[1], 0, 0));
        }
    }

    private static void timeWraps() {
        CellKeeper x = new CellKeeper(1, 2, 10, 20, 50);
        Bench.forge(x, 0, Bench.block(1, Integer.MAX_VALUE, 0, 0, 0));
        Expect.same("time", x.power(), Integer.MAX_VALUE);
        x.tick(1);
        Expect.same("time", x.time(), Integer.MIN_VALUE);

        CellKeeper y = new CellKeeper(1, 2, 10, 20, 7);
        Bench.forge(y, 0, Bench.block(1, -16, 0, 0, 0));
        Expect.same("time with its sign", y.power(), -16);
        y.tick(1);
        Expect.same("nothing at -15", y.journal(32), 0);
        y.tick(1);
        Bench.sameBlock("7 divides -14", y, 1, Bench.block(2, -14, 0, 0, 0));
        y.tick(14);
        Bench.sameBlock("7 divides 0", y, 1, Bench.block(4, 0, 0, 0, 0));
        Expect.same("time", y.time(), 0);
    }

    private static void spoiling() {
        CellKeeper x = new CellKeeper(1, 2, 10, 20, 50);
        x.spoil(63, 255);
        Expect.same("put upon 0", x.journal(63), 255);
        x.spoil(63, 15);
        Expect.same("put upon 255", x.journal(63), 240);
        x.spoil(63, 0);
        Expect.same("0 changes nothing", x.journal(63), 240);
        Expect.same("others stay", x.journal(62), 0);
        CellKeeper dark = Bench.dark();
        dark.spoil(0, 128);
        Expect.same("without power", dark.journal(0), 128);
        Expect.same("off still", dark.off(), true);
    }

    private static void wrongBytes() {
        CellKeeper x = new CellKeeper(1, 2, 10, 20, 50);
        CellKeeper dark = Bench.dark();
        for (int bad : new int[] {-1, 64, Integer.MAX_VALUE, Integer.MIN_VALUE}) {
            Expect.index("journal", () -> x.journal(bad));
            Expect.index("journal without power", () -> dark.journal(bad));
            Expect.index("spoil", () -> x.spoil(bad, 1));
            Expect.index("spoil with both wrong", () -> x.spoil(bad, 256));
        }
        for (int bad : new int[] {-1, 256, Integer.MAX_VALUE, Integer.MIN_VALUE}) {
            Expect.argument("spoil", () -> x.spoil(5, bad));
            Expect.argument("spoil without power", () -> dark.spoil(5, bad));
        }
        Expect.same("nothing was changed", x.journal(5), 0);
        Expect.same("off", x.off(), false);
        Expect.same("chips without power", dark.chips(), 2);
    }
}
