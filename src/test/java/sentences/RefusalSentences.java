/** Terms: which calls are refused, by which exception, and that they change nothing. */
final class RefusalSentences {
    private static final double[] NO_NUMBERS = {Double.NaN, Double.POSITIVE_INFINITY, Double.NEGATIVE_INFINITY};
    private static final double[] NO_AMOUNTS = {0.1, -0.1, 0.0625, -0.0625, 1e9, -1e9, 1e300, -1e300, 4294967296.0,
        Double.MIN_VALUE, Double.MAX_VALUE, -Double.MAX_VALUE};
    private static final int[] FAR = {Integer.MIN_VALUE, Integer.MAX_VALUE};

    private RefusalSentences() {
    }

    static void tell() {
        wrongAmounts();
        nothingIsChanged();
        theFirstNamed();
        noSuchThing();
        powerIsOff();
    }

    private static void wrongAmounts() {
        Sentence.of("Terms", "Arguments of currents and temperatures that are not as said (or no numbers): IllegalArgumentException.");
        CellKeeper x = Bench.half(1);
        for (double[] bad : new double[][] {NO_NUMBERS, NO_AMOUNTS}) {
            for (double each : bad) {
                Expect.argument("current of " + each, () -> x.current(each));
                Expect.argument("warm of " + each, () -> x.warm(0, each));
                Expect.argument("set of " + each, () -> x.set(each));
            }
        }
    }

    /** Waits in PRECHARGE, with a current, REST, counts, a cut, and cells that will get stuck. */
    private static CellKeeper busy() {
        CellKeeper x = new CellKeeper(2, 2, 10, 20, 20);
        x.set(500);
        x.want(true);
        x.current(0.25);
        x.warm(1, 50);
        x.bus(20000);
        Bench.level(x, 3700);
        x.warm(0, -35);
        x.tick(4);
        x.cut(17);
        return x;
    }

    private static void refuseAll(CellKeeper x) {
        long[] reply = Bench.reply(63, 1, 2, 3, 4, 5, 6);
        Expect.index("reply", () -> x.reply(2, reply[0], reply[1]));
        Expect.argument("current", () -> x.current(2000.125));
        Expect.index("warm", () -> x.warm(-1, 0));
        Expect.argument("warm", () -> x.warm(0, 200.125));
        Expect.argument("bus", () -> x.bus(1000001));
        Expect.argument("set", () -> x.set(1000.125));
        Expect.argument("tick", () -> x.tick(101));
        Expect.argument("tick", () -> x.tick(0));
        Expect.index("reset", () -> x.reset(9));
        Expect.argument("cut", () -> x.cut(33));
        Expect.index("valid", () -> x.valid(2, 0));
        Expect.index("bleeding", () -> x.bleeding(2));
        Expect.index("count", () -> x.count(7));
        Expect.index("journal", () -> x.journal(64));
        Expect.index("spoil", () -> x.spoil(64, 1));
        Expect.argument("spoil", () -> x.spoil(0, 256));
    }

    /** What is not refused but for the power. */
    private static void refuseForPower(CellKeeper x) {
        long[] reply = Bench.reply(0, 3900, 3900, 3900, 3900, 3900, 3900);
        Expect.state("reply", () -> x.reply(0, reply[0], reply[1]));
        Expect.state("a reply that is not used", () -> x.reply(1, reply[0], reply[1] ^ 1));
        Expect.state("current", () -> x.current(1));
        Expect.state("warm", () -> x.warm(1, 1));
        Expect.state("bus", () -> x.bus(1));
        Expect.state("want", () -> x.want(true));
        Expect.state("set", () -> x.set(1));
        Expect.state("tick", () -> x.tick(1));
        Expect.state("reset", () -> x.reset(8));
        Expect.state("cut", () -> x.cut(1));
        Expect.state("time", () -> x.time());
        Expect.state("charge", () -> x.charge());
        Expect.state("percent", () -> x.percent());
        Expect.state("through", () -> x.through());
        Expect.state("allowed", () -> x.allowed(false));
        Expect.state("allowed", () -> x.allowed(true));
        Expect.state("valid", () -> x.valid(1, 5));
        Expect.state("bleeding", () -> x.bleeding(1));
        Expect.state("faults", () -> x.faults());
        Expect.state("count", () -> x.count(6));
    }

    private static void nothingIsChanged() {
        Sentence.of("Terms", "A call that throws changes nothing;");
        CellKeeper x = busy();
        CellKeeper y = busy();
        refuseAll(x);
        Bench.sameKeepers("at once", x, y);
        for (CellKeeper each : new CellKeeper[] {x, y}) {
            each.tick(2);
            each.bus(42180);
        }
        Expect.same("closed", x.tick(1), 3);
        Expect.same("closed", y.tick(1), 3);
        Bench.sameKeepers("three ticks later", x, y);
        x.tick(100);
        y.tick(100);
        Bench.sameKeepers("behind the cut", x, y);
        Expect.same("off", x.off(), true);
        refuseAll(x);
        refuseForPower(x);
        Bench.sameKeepers("without power", x, y);
        Expect.same("power comes", x.power(), y.power());
        Bench.sameKeepers("when power came", x, y);
    }

    private static void theFirstNamed() {
        Sentence.of("Terms", "of several exceptions the one named first is thrown.");
        CellKeeper on = Bench.half(2);
        Expect.index("warm, both wrong", () -> on.warm(2, Double.NaN));
        Expect.index("spoil, both wrong", () -> on.spoil(64, 256));
        CellKeeper x = Bench.dark();
        Expect.index("reply", () -> x.reply(2, 0, 0));
        Expect.argument("current", () -> x.current(Double.NaN));
        Expect.argument("current", () -> x.current(2000.125));
        Expect.index("warm, all wrong", () -> x.warm(2, Double.NaN));
        Expect.argument("warm", () -> x.warm(1, Double.NaN));
        Expect.argument("warm", () -> x.warm(1, 0.1));
        Expect.argument("bus", () -> x.bus(-1));
        Expect.argument("set", () -> x.set(1000.125));
        Expect.argument("tick", () -> x.tick(0));
        Expect.index("reset", () -> x.reset(9));
        Expect.argument("cut", () -> x.cut(33));
        Expect.index("valid", () -> x.valid(2, 0));
        Expect.index("valid", () -> x.valid(0, 6));
        Expect.index("bleeding", () -> x.bleeding(2));
        Expect.index("count", () -> x.count(7));
        Expect.index("spoil, both wrong", () -> x.spoil(-1, -1));
    }

    private static void noSuchThing() {
        Sentence.of("Terms", "IndexOutOfBoundsException: there is no such chip, cell, byte, fault.");
        CellKeeper x = Bench.half(2);
        for (int bad : new int[] {-1, 2, FAR[0], FAR[1]}) {
            Expect.index("reply of chip " + bad, () -> x.reply(bad, 0, 0));
            Expect.index("warm of chip " + bad, () -> x.warm(bad, 0));
            Expect.index("valid of chip " + bad, () -> x.valid(bad, 0));
            Expect.index("bleeding of chip " + bad, () -> x.bleeding(bad));
        }
        for (int bad : new int[] {-1, 6, FAR[0], FAR[1]}) {
            Expect.index("valid of cell " + bad, () -> x.valid(0, bad));
        }
        for (int bad : new int[] {-1, 64, FAR[0], FAR[1]}) {
            Expect.index("byte " + bad, () -> x.journal(bad));
            Expect.index("byte " + bad, () -> x.spoil(bad, 0));
        }
        for (int bad : new int[] {-1, 9, FAR[0], FAR[1]}) {
            Expect.index("fault " + bad, () -> x.reset(bad));
        }
        x.reply(1, 0, 0);
        x.warm(1, 0);
        x.reset(0);
        x.reset(8);
        Expect.same("the last ones are there", x.valid(1, 5), false);
        Expect.same("the last ones are there", x.journal(63), 0);
    }

    private static void powerIsOff() {
        Sentence.of("Terms", "IllegalStateException: the power is OFF.");
        CellKeeper x = Bench.dark();
        refuseForPower(x);
        Expect.same("chips", x.chips(), 2);
        Expect.same("seal", x.seal(0, 0), 0);
        Expect.same("off", x.off(), true);
        Expect.same("journal", x.journal(63), 0);
        x.spoil(63, 9);
        Expect.same("spoil", x.journal(63), 9);
        Expect.same("power", x.power(), 0);
        x.tick(1);
        Expect.same("with power again", x.time(), 1);
    }
}
