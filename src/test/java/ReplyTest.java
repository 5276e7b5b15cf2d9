/** Promises 3, 4 and 20: seal, reply, and which cells are valid. */
public final class ReplyTest {
    public static void main(String[] args) {
        sealIsTheCheckOfFourteenBytes();
        onlyARightCheckIsUsed();
        wrongChips();
        numbersStandInTheirPlaces();
        boundsOfNumbers();
        statusMarksCells();
        repliesGetTooOld();
        cellsGetStuck();
        powerForgetsReplies();
        Expect.end();
    }

    private static void sealIsTheCheckOfFourteenBytes() {
        CellKeeper x = new CellKeeper(1, 2, 1, 1, 1);
        Expect.same("seal of zeros", x.seal(0, 0), 0);
        Expect.same("seal leaves the last two bytes", x.seal(0, 0xFFFF), 0);
        Expect.same("seal of one bit", x.seal(0, 1L << 16), 17817);
        java.util.Random random = new java.util.Random(3);
        for (int i = 0; i < 500; i++) {
            long a = random.nextLong();
            long b = random.nextLong();
            byte[] row = java.nio.ByteBuffer.allocate(16).putLong(a).putLong(b).array();
            Expect.same("seal", x.seal(a, b), Bench.check(row, 0, 14));
        }
        Expect.same("seal without power", Bench.dark().seal(0, 1L << 16), 17817);
    }

    private static void onlyARightCheckIsUsed() {
        CellKeeper x = new CellKeeper(1, 2, 1, 1, 1);
        long[] good = Bench.reply(0, 3700, 3701, 3702, 3703, 3704, 3705);
        for (int bit = 0; bit < 64; bit++) {
            Expect.same("a first half with bit " + bit + " wrong", x.reply(0, good[0] ^ 1L << bit, good[1]), false);
            Expect.same("a second half with bit " + bit + " wrong", x.reply(0, good[0], good[1] ^ 1L << bit), false);
        }
        Expect.same("no reply was used", x.valid(0, 0), false);
        Expect.same("a right reply", x.reply(0, good[0], good[1]), true);
        Expect.same("a reply was used", x.valid(0, 0), true);
        x.reply(0, 0, 1);
        Expect.same("one that is not used changes nothing", x.valid(0, 0), true);
        x.reply(0, 0, 0);
        Expect.same("numbers 0 with a right check are used", x.valid(0, 0), false);
    }

    private static void wrongChips() {
        CellKeeper x = new CellKeeper(2, 2, 1, 1, 1);
        for (int chip : new int[] {-1, 2, Integer.MAX_VALUE, Integer.MIN_VALUE}) {
            Expect.index("reply", () -> x.reply(chip, 0, 0));
            Expect.index("valid", () -> x.valid(chip, 0));
        }
        for (int cell : new int[] {-1, 6, Integer.MAX_VALUE, Integer.MIN_VALUE}) {
            Expect.index("valid", () -> x.valid(0, cell));
        }
        CellKeeper dark = Bench.dark();
        Expect.index("reply without power of no chip", () -> dark.reply(2, 0, 0));
        Expect.state("reply without power", () -> dark.reply(1, 0, 0));
        Expect.state("a wrong reply without power", () -> dark.reply(1, 0, 1));
        Expect.index("valid without power of no chip", () -> dark.valid(-1, 0));
        Expect.index("valid without power of no cell", () -> dark.valid(0, 6));
        Expect.state("valid without power", () -> dark.valid(1, 5));
    }

    private static void numbersStandInTheirPlaces() {
        for (int odd = 0; odd < 6; odd++) {
            CellKeeper x = new CellKeeper(2, 2, 1, 1, 1);
            int[] numbers = {3700, 3700, 3700, 3700, 3700, 3700};
            numbers[odd] = 100;
            Bench.tell(x, 1, 0, numbers);
            for (int cell = 0; cell < 6; cell++) {
                Expect.same("valid(1, " + cell + ")", x.valid(1, cell), cell != odd);
                Expect.same("valid(0, " + cell + ")", x.valid(0, cell), false);
            }
        }
    }

    private static void boundsOfNumbers() {
        int[] numbers = {499, 500, 4999, 5000, 0, 65535};
        boolean[] due = {false, true, true, false, false, false};
        CellKeeper x = new CellKeeper(1, 2, 1, 1, 1);
        Bench.tell(x, 0, 0, numbers);
        for (int cell = 0; cell < 6; cell++) {
            Expect.same("a cell of " + numbers[cell], x.valid(0, cell), due[cell]);
        }
    }

    private static void statusMarksCells() {
        for (int bit = 0; bit < 16; bit++) {
            CellKeeper x = new CellKeeper(1, 2, 1, 1, 1);
            Bench.tell(x, 0, 1 << bit, 3700, 3700, 3700, 3700, 3700, 3700);
            for (int cell = 0; cell < 6; cell++) {
                Expect.same("status bit " + bit + ", cell " + cell, x.valid(0, cell), bit != cell);
            }
            Bench.level(x, 3700);
            Expect.same("the latest status counts", x.valid(0, Math.min(bit, 5)), true);
        }
    }

    private static void repliesGetTooOld() {
        CellKeeper x = new CellKeeper(2, 2, 1, 20, 50);
        x.tick(3);
        Bench.level(x, 3700);
        x.tick(10);
        Expect.same("ten ticks behind", x.valid(0, 0), true);
        Expect.same("no chip was stale", x.count(0), 0);
        Bench.tell(x, 1, 0, 3700, 3700, 3700, 3700, 3700, 3700);
        x.tick(1);
        Expect.same("eleven ticks behind", x.valid(0, 0), false);
        Expect.same("the other chip", x.valid(1, 0), true);
        Expect.same("one chip is stale", x.count(0), 1);
        x.reply(0, 0, 1);
        Expect.same("one that is not used doesn't help", x.valid(0, 0), false);
        Bench.level(x, 3700);
        Expect.same("a new reply", x.valid(0, 0), true);
    }

    private static void cellsGetStuck() {
        stuck("a swing of 8.125", 8.125, 8, true);
        stuck("a swing of 8", 8, 8, false);
        stuck("seven replies", 100, 7, false);
        stuck("a swing the other way", -8.125, 8, true);

        CellKeeper x = new CellKeeper(1, 2, 1, 1, 1);
        x.current(100);
        Bench.level(x, 3700);
        x.current(0);
        for (int i = 0; i < 7; i++) {
            Bench.level(x, 3700);
        }
        Expect.same("the first current is among eight", x.valid(0, 3), false);
        Bench.level(x, 3700);
        Expect.same("the first current is no more among eight", x.valid(0, 3), true);

        CellKeeper y = new CellKeeper(1, 2, 1, 1, 1);
        for (int i = 0; i < 12; i++) {
            y.current(20 * (i % 2));
            Bench.tell(y, 0, 0, 3700, 3700 + i, 3700, 3700 + i / 8, 3700, i < 4 ? 3600 : 3700);
        }
        Expect.same("the same number", y.valid(0, 0), false);
        Expect.same("other numbers", y.valid(0, 1), true);
        Expect.same("other numbers since four", y.valid(0, 3), true);
        Expect.same("the same number since eight", y.valid(0, 5), false);
        y.current(0);
        Expect.same("a current told behind them doesn't matter", y.valid(0, 0), false);
        Bench.tell(y, 0, 0, 3701, 3701, 3701, 3701, 3701, 3701);
        Expect.same("another number", y.valid(0, 0), true);
    }

    private static void stuck(String what, double swing, int replies, boolean due) {
        CellKeeper x = new CellKeeper(1, 2, 1, 1, 1);
        x.current(1);
        for (int i = 0; i < replies - 1; i++) {
            Bench.level(x, 3700);
        }
        x.current(1 + swing);
        Bench.level(x, 3700);
        Expect.same(what, x.valid(0, 2), !due);
    }

    private static void powerForgetsReplies() {
        CellKeeper x = new CellKeeper(1, 2, 1, 1, 1);
        for (int i = 0; i < 7; i++) {
            x.current(20 * (i % 2));
            Bench.level(x, 3700);
        }
        x.power();
        Expect.same("no reply since power came", x.valid(0, 0), false);
        x.current(20);
        for (int i = 0; i < 7; i++) {
            Bench.level(x, 3700);
            x.current(0);
        }
        Expect.same("seven replies since power came", x.valid(0, 0), true);
        Bench.level(x, 3700);
        Expect.same("eight replies since power came", x.valid(0, 0), false);
    }
}
