/** Promises 1 to 14: a new object, and the calls that tell it something. */
final class CallSentences {
    private static final int LEAST = Integer.MIN_VALUE;
    private static final int MOST = Integer.MAX_VALUE;

    private CallSentences() {
    }

    static void tell() {
        chipsAndBlocks();
        capacity();
        debounce();
        every();
        atFirstCharge();
        atFirstCurrentsAndBus();
        atFirstTemperatures();
        atFirstNotWanted();
        atFirstNoReply();
        atFirstOpen();
        atFirstPower();
        chips();
        seal();
        reply();
        current();
        warm();
        bus();
        want();
        set();
        tick();
        reset();
        cut();
        power();
        off();
    }

    private static void chipsAndBlocks() {
        Sentence.of("Promise 1", "So many chips, blocks of the journal (the nearest of what can be),");
        for (int[] row : new int[][] {{LEAST, 1}, {-1, 1}, {0, 1}, {1, 1}, {2, 2}, {3, 3}, {4, 4}, {5, 4}, {MOST, 4}}) {
            CellKeeper x = new CellKeeper(row[0], 2, 1, 1, 1);
            Expect.same("chips of " + row[0], x.chips(), row[1]);
            Expect.same("the last chip", x.bleeding(row[1] - 1), 0);
            Expect.index("a chip behind the last", () -> x.bleeding(row[1]));
        }
        for (int[] row : new int[][] {{LEAST, 2}, {0, 2}, {1, 2}, {2, 2}, {3, 3}, {15, 15}, {16, 16}, {17, 16}, {MOST, 16}}) {
            CellKeeper x = new CellKeeper(1, row[0], 1, 1, 1);
            Expect.same("the last byte of " + row[0] + " blocks", x.journal(32 * row[1] - 1), 0);
            Expect.index("a byte behind the last", () -> x.journal(32 * row[1]));
        }
    }

    private static void capacity() {
        Sentence.of("Promise 1", "a CAPACITY of capacity * 100 (1 .. 4000),");
        int[][] rows = {{LEAST, 100}, {-1, 100}, {0, 100}, {1, 100}, {2, 200}, {3999, 399900}, {4000, 400000}, {4001, 400000},
            {42949673, 400000}, {MOST, 400000}};
        for (int[] row : rows) {
            CellKeeper x = new CellKeeper(1, 2, row[0], 1, 1);
            x.set(row[1]);
            Expect.near("full", x.charge(), row[1]);
            Expect.same("full", x.percent(), 100);
            Expect.argument("more than that", () -> x.set(row[1] + 0.125));
        }
    }

    private static void debounce() {
        Sentence.of("Promise 1", "DEBOUNCE 1 .. 20,");
        for (int[] row : new int[][] {{LEAST, 1}, {0, 1}, {1, 1}, {2, 2}, {19, 19}, {20, 20}, {21, 20}, {MOST, 20}}) {
            CellKeeper x = new CellKeeper(1, 2, 1, row[0], 50);
            for (int tick = 1; tick <= 22; tick++) {
                x.tick(1);
                Expect.same("debounce " + row[0] + ", tick " + tick, x.faults(), tick >= row[1] ? 1 : 0);
            }
        }
    }

    private static void every() {
        Sentence.of("Promise 1", "EVERY 1 .. 50 (the nearest likewise).");
        for (int[] row : new int[][] {{LEAST, 1}, {0, 1}, {1, 1}, {2, 2}, {49, 49}, {50, 50}, {51, 50}, {MOST, 50}}) {
            CellKeeper x = new CellKeeper(1, 2, 1, 20, row[0]);
            if (row[1] > 1) {
                Bench.run(x, 3700, row[1] - 1);
                Expect.same("every " + row[0] + ", a tick before", x.journal(0), 0);
            }
            Bench.run(x, 3700, 1);
            Expect.same("every " + row[0], x.journal(0), 1);
            Bench.run(x, 3700, row[1]);
            Expect.same("every " + row[0] + ", again", x.journal(32), 2);
        }
    }

    private static void atFirstCharge() {
        Sentence.of("Promise 1", "CHARGE 0,");
        CellKeeper x = new CellKeeper(1, 2, 10, 20, 50);
        Expect.near("charge", x.charge(), 0);
        Expect.same("percent", x.percent(), 0);
    }

    private static void atFirstCurrentsAndBus() {
        Sentence.of("Promise 1", "currents and BUS 0,");
        CellKeeper x = Bench.half(1);
        x.tick(1);
        Expect.near("no current", x.charge(), 500);
        Expect.near("no current", x.through(), 0);
        x.want(true);
        Expect.same("no bus", x.tick(4), 2);
        x.want(false);
        Expect.same("no bus", x.tick(4), 0);
        Expect.same("no bus", x.faults(), 0);
        CellKeeper empty = new CellKeeper(1, 2, 10, 20, 50);
        empty.want(true);
        empty.tick(1);
        empty.want(false);
        Expect.same("no bus, though SUM is 0", empty.tick(4), 0);
        Expect.same("no bus, though SUM is 0", empty.faults(), 0);
        CellKeeper stuck = new CellKeeper(1, 2, 10, 20, 50);
        Bench.level(stuck, 3700);
        stuck.current(8);
        for (int i = 0; i < 7; i++) {
            Bench.level(stuck, 3700);
        }
        Expect.same("the current of the first reply is no more than 8 away", stuck.valid(0, 0), true);
        stuck = new CellKeeper(1, 2, 10, 20, 50);
        Bench.level(stuck, 3700);
        stuck.current(8.125);
        for (int i = 0; i < 7; i++) {
            Bench.level(stuck, 3700);
        }
        Expect.same("the current of the first reply is more than 8 away", stuck.valid(0, 0), false);
    }

    private static void atFirstTemperatures() {
        Sentence.of("Promise 1", "temperatures 20,");
        for (int chips = 1; chips <= 4; chips++) {
            CellKeeper x = Bench.half(chips);
            x.tick(1);
            Expect.near("neither hot nor cold", x.allowed(false), 300);
            for (int chip = 0; chip < chips - 1; chip++) {
                x.warm(chip, 21);
            }
            // All but one are known, so that the last one's must lie between 10 and 45.
            x.tick(1);
            Expect.near("neither hot nor cold", x.allowed(true), 150);
            Expect.same("neither hot nor cold", x.count(4) + x.count(5), 0);
        }
    }

    private static void atFirstNotWanted() {
        Sentence.of("Promise 1", "not WANTED,");
        Expect.same("it stays open", Bench.half(1).tick(5), 0);
    }

    private static void atFirstNoReply() {
        Sentence.of("Promise 1", "no reply,");
        CellKeeper x = new CellKeeper(4, 2, 10, 20, 50);
        for (int chip = 0; chip < 4; chip++) {
            Expect.same("chip " + chip, x.valid(chip, 0), false);
        }
        x.tick(1);
        Expect.same("stale", x.count(0), 1);
    }

    private static void atFirstOpen() {
        Sentence.of("Promise 1", "OPEN,");
        CellKeeper x = new CellKeeper(1, 2, 10, 1, 50);
        Expect.same("a serious fault would bring it from 1, 2, 3 to 4", x.tick(1), 0);
        CellKeeper y = Bench.half(1);
        y.want(true);
        Expect.same("two ticks begin with 1", y.tick(1), 1);
        Expect.same("two ticks begin with 1", y.tick(1), 1);
        Expect.same("two ticks begin with 1", y.tick(1), 2);
    }

    private static void atFirstPower() {
        Sentence.of("Promise 1", "power.");
        CellKeeper x = new CellKeeper(1, 2, 10, 1, 50);
        Expect.same("off", x.off(), false);
        Expect.same("time", x.time(), 0);
    }

    private static void chips() {
        Sentence.of("Promise 2", "How many chips there are.");
        for (int chips = 1; chips <= 4; chips++) {
            Expect.same("chips", new CellKeeper(chips, 2, 1, 1, 1).chips(), chips);
        }
        CellKeeper dark = Bench.dark();
        Expect.same("without power", dark.chips(), 2);
        dark.power();
        Expect.same("when power came", dark.chips(), 2);
    }

    private static void seal() {
        Sentence.of("Promise 3", "The CHECK of fourteen bytes: of a, and of the six highest ones of b.");
        CellKeeper x = new CellKeeper(1, 2, 1, 1, 1);
        java.util.Random random = new java.util.Random(14);
        for (int i = 0; i < 100; i++) {
            long a = random.nextLong();
            long b = random.nextLong();
            byte[] row = java.nio.ByteBuffer.allocate(16).putLong(a).putLong(b).array();
            int due = Bench.check(row, 0, 14);
            Expect.same("fourteen bytes", x.seal(a, b), due);
            Expect.same("without the two lowest of b", x.seal(a, b ^ 0xFFFF), due);
            Expect.note(x.seal(a, b ^ 0x1_0000) != due, "the sixth byte of b does not count");
            Expect.note(x.seal(a ^ Long.MIN_VALUE, b) != due, "the first byte of a does not count");
        }
        Expect.same("all bits", x.seal(-1, -1), Bench.check(new byte[] {-1, -1, -1, -1, -1, -1, -1, -1, -1, -1, -1, -1, -1, -1}, 0, 14));
        Expect.same("without power", Bench.dark().seal(0, 0x1_0000), 17817);
    }

    private static void reply() {
        long[] good = Bench.reply(0, 3700, 3700, 3700, 3700, 3700, 3700);
        Sentence.of("Promise 4", "A reply of a chip: whether it is USED.");
        CellKeeper x = new CellKeeper(2, 2, 1, 1, 1);
        Expect.same("a wrong check", x.reply(0, good[0], good[1] ^ 1), false);
        Expect.same("not used", x.valid(0, 0), false);
        Expect.same("a right check", x.reply(0, good[0], good[1]), true);
        Expect.same("used", x.valid(0, 0), true);
        Expect.same("of that chip alone", x.valid(1, 0), false);
        Expect.same("the same once more", x.reply(0, good[0], good[1]), true);
        Expect.same("numbers that no cell can have are used", x.reply(0, 0, 0), true);
        Expect.same("so that cells are not valid", x.valid(0, 0), false);

        Sentence.of("Promise 4", "IndexOutOfBoundsException;");
        for (int bad : new int[] {LEAST, -1, 2, MOST}) {
            Expect.index("chip " + bad, () -> x.reply(bad, good[0], good[1]));
        }
        Expect.same("the last chip", x.reply(1, good[0], good[1]), true);

        Sentence.of("Promise 4", "IllegalStateException.");
        CellKeeper dark = Bench.dark();
        Expect.state("used or", () -> dark.reply(0, good[0], good[1]));
        Expect.state("not", () -> dark.reply(0, good[0], good[1] ^ 1));
    }

    private static void current() {
        Sentence.of("Promise 5", "The current from now on.");
        CellKeeper x = Bench.half(1);
        x.current(3);
        x.tick(2);
        Expect.near("two ticks", x.charge(), 494);
        x.current(-1);
        x.current(-2);
        x.tick(1);
        Expect.near("the latest told", x.charge(), 496);
        Expect.near("none before it was told", Bench.half(1).charge(), 500);

        Sentence.of("Promise 5", "IllegalArgumentException: it is not -2000 .. 2000;");
        for (double good : new double[] {-2000, -1999.875, 0, -0.0, 1999.875, 2000}) {
            x.current(good);
        }
        x.current(5);
        for (double bad : new double[] {-2000.125, 2000.125, Math.nextUp(2000.0), -1e18, 1e18, Double.NaN}) {
            Expect.argument("current " + bad, () -> x.current(bad));
        }
        x.tick(1);
        Expect.near("the current before stays", x.charge(), 491);

        Sentence.of("Promise 5", "IllegalStateException.");
        CellKeeper dark = Bench.dark();
        Expect.state("current", () -> dark.current(0));
    }

    private static void warm() {
        Sentence.of("Promise 6", "A chip's temperature from now on.");
        CellKeeper x = Bench.half(2);
        x.warm(1, 50);
        x.tick(1);
        Expect.near("a tick", x.allowed(false), 300 * 44 / 64.0);
        x.tick(1);
        Expect.near("another tick", x.allowed(false), 300 * 44 / 64.0);
        x.warm(1, 45);
        x.tick(1);
        Expect.near("the latest told", x.allowed(false), 300);

        Sentence.of("Promise 6", "IndexOutOfBoundsException;");
        for (int bad : new int[] {LEAST, -1, 2, MOST}) {
            Expect.index("chip " + bad, () -> x.warm(bad, 60));
        }

        Sentence.of("Promise 6", "IllegalArgumentException: it is not -100 .. 200;");
        for (double good : new double[] {-100, -99.875, 0, -0.0, 199.875, 200, 50.125}) {
            x.warm(0, good);
        }
        for (double bad : new double[] {-100.125, 200.125, Math.nextUp(200.0), -1e18, 1e18, Double.NaN}) {
            Expect.argument("warm " + bad, () -> x.warm(0, bad));
        }
        x.tick(1);
        Expect.near("the temperature before stays", x.allowed(false), 300 * 43 / 64.0);

        Sentence.of("Promise 6", "IllegalStateException.");
        CellKeeper dark = Bench.dark();
        Expect.state("warm", () -> dark.warm(0, 0));
    }

    private static void bus() {
        Sentence.of("Promise 7", "BUS from now on.");
        CellKeeper x = Bench.half(1);
        x.want(true);
        x.bus(30000);
        x.bus(21089);
        Expect.same("the latest told", x.tick(4), 2);
        x.bus(21090);
        Expect.same("the latest told", x.tick(1), 3);

        Sentence.of("Promise 7", "IllegalArgumentException: it is not 0 .. 1000000;");
        CellKeeper y = Bench.half(1);
        y.want(true);
        y.bus(0);
        y.bus(1);
        y.bus(999999);
        y.bus(1000000);
        for (int bad : new int[] {LEAST, -1, 1000001, MOST}) {
            Expect.argument("bus " + bad, () -> y.bus(bad));
        }
        Expect.same("the bus before stays", y.tick(4), 3);

        Sentence.of("Promise 7", "IllegalStateException.");
        CellKeeper dark = Bench.dark();
        Expect.state("bus", () -> dark.bus(0));
    }

    private static void want() {
        Sentence.of("Promise 8", "WANTED or not from now on.");
        CellKeeper x = Bench.half(1);
        x.bus(22200);
        x.want(false);
        x.want(true);
        Expect.same("wanted", x.tick(6), 3);
        x.want(true);
        x.want(false);
        Expect.same("not wanted", x.tick(1), 4);

        Sentence.of("Promise 8", "IllegalStateException.");
        CellKeeper dark = Bench.dark();
        Expect.state("want", () -> dark.want(true));
        Expect.state("want", () -> dark.want(false));
    }

    private static void set() {
        Sentence.of("Promise 9", "CHARGE becomes q.");
        CellKeeper x = new CellKeeper(1, 2, 1, 20, 50);
        for (double q : new double[] {0, 0.125, 50, 99.875, 100, 0}) {
            x.set(q);
            Expect.near("charge", x.charge(), q);
        }
        x.set(40);
        x.tick(1);
        Expect.near("charge behind a tick", x.charge(), 40);

        Sentence.of("Promise 9", "IllegalArgumentException: it is not 0 .. CAPACITY;");
        for (double bad : new double[] {-0.125, 100.125, -100, 1e18, Double.NaN, Math.nextUp(100.0), -Double.MIN_VALUE,
            Double.POSITIVE_INFINITY, Double.NEGATIVE_INFINITY}) {
            Expect.argument("set " + bad, () -> x.set(bad));
        }
        Expect.near("the charge before stays", x.charge(), 40);
        CellKeeper large = new CellKeeper(1, 2, 4000, 20, 50);
        large.set(400000);
        Expect.argument("more than the greatest", () -> large.set(400000.125));

        Sentence.of("Promise 9", "IllegalStateException.");
        CellKeeper dark = Bench.dark();
        Expect.state("set", () -> dark.set(0));
    }

    private static void tick() {
        Sentence.of("Promise 10", "So many TICKS (if the power goes OFF, no more): the state then.");
        CellKeeper x = Bench.half(1);
        x.want(true);
        Expect.same("a tick", x.tick(1), 1);
        Expect.same("a tick", x.time(), 1);
        Expect.same("two ticks", x.tick(2), 2);
        Expect.same("two ticks", x.time(), 3);
        x.tick(100);
        Expect.same("a hundred ticks", x.time(), 103);
        CellKeeper cut = new CellKeeper(1, 2, 10, 20, 4);
        cut.set(500);
        Bench.level(cut, 3700);
        cut.bus(22200);
        cut.want(true);
        cut.cut(31);
        Expect.same("the state when the power went", cut.tick(100), 3);
        Expect.same("TIME when the power went", cut.journal(4), 4);
        Expect.same("no block behind it", cut.journal(32), 0);

        Sentence.of("Promise 10", "IllegalArgumentException: n is not 1 .. 100;");
        for (int bad : new int[] {LEAST, -1, 0, 101, MOST}) {
            Expect.argument("tick " + bad, () -> x.tick(bad));
        }
        Expect.same("no tick", x.time(), 103);

        Sentence.of("Promise 10", "IllegalStateException.");
        CellKeeper dark = Bench.dark();
        Expect.state("tick", () -> dark.tick(1));
        Expect.state("tick", () -> dark.tick(100));
    }

    private static void reset() {
        Sentence.of("Promise 11", "A LATCHED fault goes, if it is 7 or 8 and the state is OPEN,");
        for (int fault = 7; fault <= 8; fault++) {
            int one = fault;
            CellKeeper x = Bench.withFaults(1 << one);
            Expect.same("open", x.reset(one), true);
            Expect.same("it went", x.faults(), 0);
        }
        CellKeeper seven = Bench.half(1);
        seven.want(true);
        Bench.run(seven, 3700, 33);
        for (int tick = 0; tick < 3; tick++) {
            Expect.same("opening", seven.reset(7), false);
            Expect.same("it stays", seven.faults(), 128);
            seven.tick(1);
        }
        Expect.same("open", seven.reset(7), true);

        Sentence.of("Promise 11", "or another one and its COUNT is 0:");
        for (int fault = 0; fault < 7; fault++) {
            CellKeeper x = Bench.withFaults(1 << fault);
            Expect.same("fault " + fault, x.reset(fault), true);
            Expect.same("it went", x.faults(), 0);
        }
        CellKeeper hot = Bench.closed(1);
        hot.warm(0, 60.125);
        hot.tick(1);
        Expect.same("a count of 1", hot.reset(4), false);
        hot.warm(0, 60);
        Expect.same("a count of 1 still", hot.reset(4), false);
        hot.tick(1);
        Expect.same("a count of 0, though not open", hot.reset(4), true);
        CellKeeper others = Bench.withFaults(0x1FF);
        others.warm(0, 61);
        others.tick(1);
        Expect.same("another one's count does not matter", others.reset(5), true);
        Expect.same("its own does", others.reset(4), false);

        Sentence.of("Promise 11", "whether it went.");
        CellKeeper none = Bench.half(1);
        for (int fault = 0; fault < 9; fault++) {
            Expect.same("none is latched", none.reset(fault), false);
        }
        CellKeeper all = Bench.withFaults(0x1FF);
        for (int fault = 0; fault < 9; fault++) {
            Expect.same("it went", all.reset(fault), true);
            Expect.same("the others stay", all.faults(), 0x1FF & -2 << fault);
            Expect.same("it can't go again", all.reset(fault), false);
        }

        Sentence.of("Promise 11", "IndexOutOfBoundsException;");
        for (int bad : new int[] {LEAST, -1, 9, MOST}) {
            Expect.index("fault " + bad, () -> none.reset(bad));
        }

        Sentence.of("Promise 11", "IllegalStateException.");
        CellKeeper dark = Bench.dark();
        Expect.state("reset", () -> dark.reset(0));
        Expect.state("reset", () -> dark.reset(8));
    }

    private static void cut() {
        Sentence.of("Promise 12", "The next BLOCK is CUT behind n bytes (0 .. 31; with 32 none is).");
        for (int n = 0; n <= 32; n++) {
            CellKeeper x = new CellKeeper(1, 2, 10, 20, 2);
            x.cut(n);
            x.tick(1);
            Expect.same("before a block", x.off(), false);
            x.tick(1);
            Expect.same("a cut behind " + n, x.off(), n < 32);
            Expect.same("the first byte", x.journal(0), n == 0 ? 0 : 1);
        }
        CellKeeper again = new CellKeeper(1, 2, 10, 20, 1);
        again.cut(9);
        again.cut(32);
        again.tick(1);
        Expect.same("32 takes a cut back", again.off(), false);
        again.cut(9);
        again.cut(5);
        again.tick(1);
        Expect.same("the latest told: byte 4", again.journal(36), 2);
        Expect.same("the latest told: no CHECK", again.journal(62) + again.journal(63), 0);
        again.power();
        again.tick(1);
        Expect.same("only the next block", again.off(), false);

        Sentence.of("Promise 12", "IllegalArgumentException;");
        CellKeeper y = new CellKeeper(1, 2, 10, 20, 1);
        for (int bad : new int[] {LEAST, -1, 33, MOST}) {
            Expect.argument("cut " + bad, () -> y.cut(bad));
        }
        y.tick(1);
        Expect.same("no cut", y.off(), false);

        Sentence.of("Promise 12", "IllegalStateException.");
        CellKeeper dark = Bench.dark();
        Expect.state("cut", () -> dark.cut(0));
        Expect.state("cut", () -> dark.cut(32));
    }

    private static void power() {
        Sentence.of("Promise 13", "POWER goes and comes, or comes: TIME then.");
        CellKeeper x = new CellKeeper(1, 2, 10, 20, 3);
        Expect.same("at once", x.power(), 0);
        x.tick(5);
        Expect.same("it goes and comes", x.power(), 3);
        Expect.same("TIME then", x.time(), 3);
        Expect.same("it goes and comes again", x.power(), 3);
        x.tick(2);
        x.cut(30);
        x.tick(100);
        Expect.same("off", x.off(), true);
        Expect.same("it comes", x.power(), 3);
        Expect.same("on", x.off(), false);
        Bench.forge(x, 0, Bench.block(99, -5, 0, 0, 0));
        Expect.same("a time below 0", x.power(), -5);
    }

    private static void off() {
        Sentence.of("Promise 14", "Whether the power is OFF.");
        CellKeeper x = new CellKeeper(1, 2, 10, 20, 1);
        Expect.same("at first", x.off(), false);
        x.cut(31);
        Expect.same("a cut alone does not take it", x.off(), false);
        x.tick(1);
        Expect.same("behind a block that was cut", x.off(), true);
        Expect.same("still", x.off(), true);
        x.power();
        Expect.same("power came", x.off(), false);
        x.power();
        Expect.same("power went and came", x.off(), false);
    }
}
