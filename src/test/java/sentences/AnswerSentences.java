/** Promises 15 to 25: the calls that answer, and the journal's bytes. */
final class AnswerSentences {
    private static final int LEAST = Integer.MIN_VALUE;
    private static final int MOST = Integer.MAX_VALUE;

    private AnswerSentences() {
    }

    static void tell() {
        time();
        charge();
        percent();
        through();
        allowed();
        valid();
        bleeding();
        faults();
        count();
        journal();
        spoil();
    }

    private static void time() {
        Sentence.of("Promise 15", "TIME.");
        CellKeeper x = new CellKeeper(1, 2, 10, 20, 50);
        Expect.same("at first", x.time(), 0);
        x.tick(100);
        Expect.same("behind 100 ticks", x.time(), 100);
        Sentence.of("Promise 15", "IllegalStateException.");
        CellKeeper dark = Bench.dark();
        Expect.state("time", () -> dark.time());
    }

    private static void charge() {
        Sentence.of("Promise 16", "CHARGE.");
        CellKeeper x = new CellKeeper(1, 2, 10, 20, 50);
        Expect.near("at first", x.charge(), 0);
        x.set(1000);
        Expect.near("full", x.charge(), 1000);
        Bench.forge(x, 0, Bench.block(1, 0, 1, 0, 0));
        x.power();
        Expect.near("a part of 8192", x.charge(), 1 / 8192.0);
        Sentence.of("Promise 16", "IllegalStateException.");
        CellKeeper dark = Bench.dark();
        Expect.state("charge", () -> dark.charge());
    }

    private static void percent() {
        Sentence.of("Promise 17", "FLOOR(100 * CHARGE / CAPACITY).");
        double[][] rows = {{0, 0}, {2.875, 0}, {3, 1}, {3.125, 1}, {86.875, 28}, {87, 29}, {171, 57}, {174, 58}, {296.875, 98},
            {297, 99}, {299.875, 99}, {300, 100}};
        CellKeeper x = new CellKeeper(1, 2, 3, 20, 50);
        for (double[] row : rows) {
            x.set(row[0]);
            Expect.same("percent of " + row[0], x.percent(), (long) row[1]);
        }
        Bench.forge(x, 0, Bench.block(1, 0, 3 * 8192 - 1, 0, 0));
        x.power();
        Expect.same("a part of 8192 less than 3", x.percent(), 0);
        CellKeeper large = new CellKeeper(1, 2, 4000, 20, 50);
        Bench.forge(large, 0, Bench.block(1, 0, 400000L * 8192 - 1, 0, 0));
        large.power();
        Expect.same("a part of 8192 less than all", large.percent(), 99);
        Sentence.of("Promise 17", "IllegalStateException.");
        CellKeeper dark = Bench.dark();
        Expect.state("percent", () -> dark.percent());
    }

    private static void through() {
        Sentence.of("Promise 18", "THROUGH.");
        CellKeeper x = new CellKeeper(1, 2, 10, 20, 50);
        Expect.near("at first", x.through(), 0);
        x.current(-2000);
        x.tick(4);
        x.current(1999.875);
        x.tick(1);
        Expect.near("the most", x.through(), 9999.875);
        x.current(0.125);
        x.tick(1);
        Expect.near("it begins again", x.through(), 0);
        Sentence.of("Promise 18", "IllegalStateException.");
        CellKeeper dark = Bench.dark();
        Expect.state("through", () -> dark.through());
    }

    private static void allowed() {
        Sentence.of("Promise 19", "What current may be taken, or (not taking) given, as the latest tick told;");
        CellKeeper x = Bench.half(1);
        x.tick(1);
        Expect.near("taking", x.allowed(true), 150);
        Expect.near("not taking", x.allowed(false), 300);
        x.set(0);
        x.warm(0, 61);
        Expect.near("before another tick", x.allowed(true), 150);
        Expect.near("before another tick", x.allowed(false), 300);
        x.tick(1);
        Expect.near("behind it", x.allowed(true), 0);
        Expect.near("behind it", x.allowed(false), 0);
        Sentence.of("Promise 19", "0 without one.");
        CellKeeper first = Bench.half(1);
        Expect.near("at first", first.allowed(true), 0);
        Expect.near("at first", first.allowed(false), 0);
        first.tick(1);
        first.power();
        Expect.near("when power came", first.allowed(true), 0);
        Expect.near("when power came", first.allowed(false), 0);
        Sentence.of("Promise 19", "IllegalStateException.");
        CellKeeper dark = Bench.dark();
        Expect.state("allowed", () -> dark.allowed(true));
        Expect.state("allowed", () -> dark.allowed(false));
    }

    private static void valid() {
        Sentence.of("Promise 20", "Whether a cell is VALID, as the chip is now.");
        CellKeeper x = new CellKeeper(2, 2, 10, 20, 50);
        Expect.same("no reply", x.valid(1, 5), false);
        Bench.tell(x, 1, 0, 3700, 3700, 3700, 3700, 3700, 500);
        Expect.same("a reply, no tick", x.valid(1, 5), true);
        Bench.tell(x, 1, 0, 3700, 3700, 3700, 3700, 3700, 499);
        Expect.same("another reply, no tick", x.valid(1, 5), false);
        Expect.same("another cell", x.valid(1, 4), true);
        x.tick(10);
        Expect.same("ten ticks", x.valid(1, 4), true);
        x.tick(1);
        Expect.same("eleven ticks", x.valid(1, 4), false);
        Sentence.of("Promise 20", "IndexOutOfBoundsException;");
        for (int bad : new int[] {LEAST, -1, 2, MOST}) {
            Expect.index("chip " + bad, () -> x.valid(bad, 0));
        }
        for (int bad : new int[] {LEAST, -1, 6, MOST}) {
            Expect.index("cell " + bad, () -> x.valid(1, bad));
        }
        Sentence.of("Promise 20", "IllegalStateException.");
        CellKeeper dark = Bench.dark();
        Expect.state("valid", () -> dark.valid(1, 5));
    }

    private static void bleeding() {
        Sentence.of("Promise 21", "The cells of a chip that bleed since the latest tick (cell k being 2^k).");
        for (int cell = 0; cell < 6; cell++) {
            CellKeeper x = Bench.half(2);
            int[] numbers = {3700, 3700, 3700, 3700, 3700, 3700};
            numbers[cell] = 3709;
            Bench.tell(x, 1, 0, numbers);
            Expect.same("before a tick", x.bleeding(1), 0);
            x.tick(1 + (cell + 1) % 2);
            Expect.same("cell " + cell, x.bleeding(1), 1 << cell);
            Expect.same("the other chip", x.bleeding(0), 0);
            Bench.level(x, 3700);
            x.current(5);
            Expect.same("as long as no tick comes", x.bleeding(1), 1 << cell);
            x.tick(2);
            Expect.same("another tick", x.bleeding(1), 0);
        }
        CellKeeper x = Bench.half(2);
        Sentence.of("Promise 21", "IndexOutOfBoundsException;");
        for (int bad : new int[] {LEAST, -1, 2, MOST}) {
            Expect.index("chip " + bad, () -> x.bleeding(bad));
        }
        Expect.same("the last chip", x.bleeding(1), 0);
        Sentence.of("Promise 21", "IllegalStateException.");
        CellKeeper dark = Bench.dark();
        Expect.state("bleeding", () -> dark.bleeding(1));
    }

    private static void faults() {
        Sentence.of("Promise 22", "The LATCHED faults (fault k being 2^k).");
        Expect.same("none", Bench.half(1).faults(), 0);
        for (int fault = 0; fault < 9; fault++) {
            Expect.same("fault " + fault, Bench.withFaults(1 << fault).faults(), 1 << fault);
        }
        Expect.same("all", Bench.withFaults(0x1FF).faults(), 511);
        Sentence.of("Promise 22", "IllegalStateException.");
        CellKeeper dark = Bench.dark();
        Expect.state("faults", () -> dark.faults());
    }

    private static void count() {
        Sentence.of("Promise 23", "The COUNT of a cause.");
        CellKeeper x = new CellKeeper(1, 2, 10, 20, 50);
        for (int cause = 0; cause < 7; cause++) {
            Expect.same("at first", x.count(cause), 0);
        }
        x.set(500);
        x.tick(2);
        x.warm(0, -31);
        x.tick(3);
        Expect.same("of cause 0", x.count(0), 5);
        Expect.same("of cause 5", x.count(5), 3);
        Expect.same("of cause 6", x.count(6), 0);
        x.current(11);
        x.tick(1);
        Expect.same("of cause 6", x.count(6), 1);
        Sentence.of("Promise 23", "IndexOutOfBoundsException: it is not 0 .. 6;");
        for (int bad : new int[] {LEAST, -1, 7, 8, MOST}) {
            Expect.index("cause " + bad, () -> x.count(bad));
        }
        Sentence.of("Promise 23", "IllegalStateException.");
        CellKeeper dark = Bench.dark();
        Expect.state("count", () -> dark.count(0));
        Expect.state("count", () -> dark.count(6));
    }

    private static void journal() {
        Sentence.of("Promise 24", "Byte i of the journal (also without power).");
        CellKeeper x = new CellKeeper(1, 2, 10, 20, 1);
        x.tick(2);
        Bench.sameBlock("the first block", x, 0, Bench.block(1, 1, 0, 0, 0));
        Bench.sameBlock("the last block", x, 1, Bench.block(2, 2, 0, 0, 0));
        x.spoil(63, x.journal(63) ^ 255);
        Expect.same("a byte is 0 .. 255", x.journal(63), 255);
        x.cut(1);
        x.tick(1);
        Expect.same("off", x.off(), true);
        Expect.same("without power", x.journal(0), 3);
        Expect.same("without power", x.journal(63), 255);
        Sentence.of("Promise 24", "IndexOutOfBoundsException.");
        for (int bad : new int[] {LEAST, -1, 64, MOST}) {
            Expect.index("byte " + bad, () -> x.journal(bad));
        }
        CellKeeper large = new CellKeeper(1, 16, 10, 20, 1);
        Expect.same("the last of sixteen blocks", large.journal(511), 0);
        Expect.index("behind it", () -> large.journal(512));
    }

    private static void spoil() {
        Sentence.of("Promise 25", "Byte i of the journal becomes another one, as a number put upon it tells (also without power).");
        CellKeeper x = new CellKeeper(1, 2, 10, 20, 50);
        int[][] steps = {{0b1100, 0b1100}, {0b1010, 0b0110}, {0, 0b0110}, {255, 0b11111001}, {0b11111001, 0}, {255, 255}, {255, 0}};
        for (int i : new int[] {0, 31, 32, 63}) {
            for (int[] step : steps) {
                x.spoil(i, step[0]);
                Expect.same("where bits differ is 1", x.journal(i), step[1]);
            }
        }
        x.spoil(5, 1);
        Expect.same("the bytes beside it stay", x.journal(4) + x.journal(6), 0);
        CellKeeper dark = Bench.dark();
        dark.spoil(63, 128);
        Expect.same("without power", dark.journal(63), 128);
        Expect.same("still without", dark.off(), true);
        Sentence.of("Promise 25", "IndexOutOfBoundsException;");
        for (int bad : new int[] {LEAST, -1, 64, MOST}) {
            Expect.index("byte " + bad, () -> x.spoil(bad, 1));
            Expect.index("byte " + bad + " without power", () -> dark.spoil(bad, 1));
        }
        Sentence.of("Promise 25", "IllegalArgumentException: the number is not 0 .. 255.");
        for (int bad : new int[] {LEAST, -1, 256, MOST}) {
            Expect.argument("put upon by " + bad, () -> x.spoil(0, bad));
            Expect.argument("put upon by " + bad + " without power", () -> dark.spoil(0, bad));
        }
        Expect.same("nothing was changed", x.journal(0) + dark.journal(0), 0);
    }
}
