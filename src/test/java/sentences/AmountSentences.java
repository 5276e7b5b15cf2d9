/** What it is, and Terms: chips, cells, and how amounts are told. */
final class AmountSentences {
    private static final double[] NO_MULTIPLES = {0.1, 0.0625, 0.1875, Math.nextUp(0.125), Math.nextDown(0.125),
        12.3, Double.MIN_VALUE, Math.nextDown(100.0)};

    private AmountSentences() {
    }

    static void tell() {
        powerMayGoAtAnyByte();
        fiveHundredAndTwelveCalls();
        chipsAndCells();
        currentsThatGive();
        temperaturesOfChips();
        chargeHasBounds();
        givenAmounts();
        ticksAreSeconds();
        floors();
        Sentence.plain("What it is", "The keeper of a vehicle's battery: it reads cells over a chain of chips, counts charge,"
                + " tells what currents are allowed, lets cells bleed, closes and opens the contactors, keeps faults, and");
        Sentence.plain("What it is", "what later calls answer is free.");
        Sentence.plain("Terms", "VOLTAGES are whole millivolts;");
        Sentence.plain("Not promised", "How the state is held inside the object is free, as are the speed of each call,"
                + " the text of toString and the behaviour of equals and hashCode.");
        Sentence.plain("Not promised", "Use of one object from several threads at once is not promised to be safe.");
        Sentence.plain("Not promised", "Nothing is promised beyond the answers and state changes described above,"
                + " and nothing about an object after its 512th call.");
    }

    private static void powerMayGoAtAnyByte() {
        Sentence.of("What it is", "a journal that outlives a loss of power at any byte.");
        for (int n = 0; n < 32; n++) {
            CellKeeper x = new CellKeeper(1, 2, 10, 20, 1);
            x.set(500);
            x.current(1.125);
            x.tick(3);
            x.cut(n);
            x.tick(1);
            Expect.same("off behind " + n + " bytes", x.off(), true);
            Expect.same("time of the block before", x.power(), 3);
            Expect.near("charge of the block before", x.charge(), 500 - 3 * 1.125);
        }
    }

    private static void fiveHundredAndTwelveCalls() {
        Sentence.of("What it is", "An object is used for at most 512 calls after it has been made;");
        CellKeeper x = new CellKeeper(4, 16, 4000, 20, 1);
        for (int call = 1; call <= 511; call++) {
            Expect.same("call " + call, x.tick(100), 0);
        }
        Expect.same("call 512", x.time(), 51100);
    }

    private static void chipsAndCells() {
        Sentence.of("Terms", "There are 1 .. 4 CHIPS with six CELLS each.");
        for (int chips = 1; chips <= 4; chips++) {
            int last = chips - 1;
            CellKeeper x = Bench.half(chips);
            Expect.same("chips", x.chips(), chips);
            for (int cell = 0; cell < 6; cell++) {
                Expect.same("a cell of the last chip", x.valid(last, cell), true);
            }
            Expect.index("a seventh cell", () -> x.valid(last, 6));
            Expect.index("a cell before the first", () -> x.valid(last, -1));
            Expect.index("a chip behind the last", () -> x.valid(last + 1, 0));
            Expect.index("a chip before the first", () -> x.valid(-1, 0));
        }
        Expect.same("no fewer than 1", new CellKeeper(0, 2, 1, 1, 1).chips(), 1);
        Expect.same("no more than 4", new CellKeeper(5, 2, 1, 1, 1).chips(), 4);
    }

    private static void currentsThatGive() {
        Sentence.of("Terms", "CURRENTS are amperes, more than 0 when the battery gives;");
        CellKeeper x = Bench.half(1);
        x.current(0.125);
        x.tick(1);
        Expect.near("a little is given", x.charge(), 499.875);
        x.current(0);
        x.tick(1);
        Expect.near("nothing", x.charge(), 499.875);
        x.current(-0.125);
        x.tick(1);
        Expect.near("a little is taken", x.charge(), 500);
    }

    private static void temperaturesOfChips() {
        Sentence.of("Terms", "TEMPERATURES are degrees, one for each chip;");
        for (int hot = 0; hot < 4; hot++) {
            CellKeeper x = Bench.half(4);
            x.warm(hot, 50);
            for (int other = 0; other < 4; other++) {
                if (other != hot) {
                    x.warm(other, 21);
                }
            }
            x.tick(1);
            Expect.near("chip " + hot + " is hot", x.allowed(false), 300 * 44 / 64.0);
            x.warm(hot, 21);
            x.tick(1);
            Expect.near("none is hot", x.allowed(false), 300);
        }
    }

    private static void chargeHasBounds() {
        Sentence.of("Terms", "CHARGE is ampere seconds, from 0 to CAPACITY");
        CellKeeper x = new CellKeeper(1, 2, 1, 20, 50);
        x.current(0.125);
        x.tick(1);
        Expect.near("empty", x.charge(), 0);
        x.set(100);
        x.current(-0.125);
        x.tick(1);
        Expect.near("full", x.charge(), 100);
    }

    private static void givenAmounts() {
        Sentence.of("Terms", "(those of the three that are given are multiples of 0.125).");
        CellKeeper x = new CellKeeper(1, 2, 10, 20, 50);
        for (double good : new double[] {0, 0.125, 0.25, 0.375, 0.5, 0.625, 0.75, 0.875, 1, 99.875}) {
            x.set(good);
            Expect.near("charge", x.charge(), good);
            x.current(good);
            x.current(-good);
            x.warm(0, good);
            x.warm(0, -good);
        }
        // That set refuses them, too, is a reading: see NOTES.md.
        x.set(7);
        for (double bad : NO_MULTIPLES) {
            Expect.argument("current of " + bad, () -> x.current(bad));
            Expect.argument("current of -" + bad, () -> x.current(-bad));
            Expect.argument("warm of " + bad, () -> x.warm(0, bad));
            Expect.argument("warm of -" + bad, () -> x.warm(0, -bad));
            Expect.argument("set of " + bad, () -> x.set(bad));
        }
        Expect.near("charge", x.charge(), 7);
    }

    private static void ticksAreSeconds() {
        Sentence.of("Terms", "TICKS are seconds.");
        CellKeeper x = Bench.half(1);
        x.current(8);
        x.tick(1);
        Expect.near("8 amperes for a second", x.charge(), 492);
        x.tick(9);
        Expect.near("8 amperes for nine seconds more", x.charge(), 420);
    }

    private static void floors() {
        Sentence.of("Terms", "FLOOR of a number is the greatest whole one that is not more.");
        CellKeeper x = new CellKeeper(1, 2, 1, 20, 50);
        double[][] rows = {{0, 0}, {0.875, 0}, {1, 1}, {1.125, 1}, {49.5, 49}, {49.875, 49}, {99.875, 99}, {100, 100}};
        for (double[] row : rows) {
            x.set(row[0]);
            Expect.same("percent of " + row[0], x.percent(), (long) row[1]);
        }
    }
}
