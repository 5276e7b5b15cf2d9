/** Terms: the order of a tick, its time (1), and its charge (2). */
final class ChargeSentences {
    private ChargeSentences() {
    }

    static void tell() {
        order();
        timeGrows();
        chipsGetStale();
        chargeIsBounded();
        throughGrows();
        throughLoses();
        restIsCounted();
        restOfSixty();
        chargeIsExact();
        meanIsFloored();
        nothingUpTo3000();
        allFrom4150();
        pointsOfRest();
        betweenPoints();
    }

    private static void order() {
        Sentence.of("Terms", "A TICK does this, in this order:");
        timeBeforeRest();
        chargeBeforeAllowed();
        allowedBeforeCauses();
        causesBeforeContactors();
        contactorsBeforeBleeding();
        allBeforeTheBlock();
    }

    private static void timeBeforeRest() {
        CellKeeper x = new CellKeeper(1, 2, 10, 20, 50);
        x.set(500);
        x.tick(49);
        Bench.level(x, 3000);
        x.tick(10);
        Expect.near("59 ticks", x.charge(), 500);
        x.tick(1);
        Expect.near("1 before 2: the chip is stale in the sixtieth tick", x.charge(), 500);
    }

    private static void chargeBeforeAllowed() {
        CellKeeper x = Bench.half(1);
        x.set(125.125);
        x.current(0.25);
        x.tick(1);
        Expect.near("2 before 3: the charge is 124.875", x.allowed(false), 300 * 63 / 64.0);
        CellKeeper rested = Bench.half(1);
        Bench.run(rested, 3000, 60);
        Expect.near("2 before 3: the charge is 0", rested.allowed(false), 0);
    }

    private static void allowedBeforeCauses() {
        CellKeeper x = Bench.half(1);
        x.current(300);
        x.tick(1);
        Expect.same("300 may be given", x.count(6), 0);
        x.tick(1);
        Expect.same("3 before 4: nothing may be given in the tick that empties", x.count(6), 1);
    }

    private static void causesBeforeContactors() {
        CellKeeper x = Bench.closed(1);
        x.warm(0, 61);
        Expect.same("4 before 5", x.tick(1), 4);
    }

    private static void contactorsBeforeBleeding() {
        CellKeeper x = Bench.half(1);
        Bench.tell(x, 0, 0, 3700, 3700, 3600, 3700, 3700, 3600);
        x.want(true);
        x.bus(1000000);
        Expect.same("precharge", x.tick(3), 2);
        Expect.same("none", x.bleeding(0), 0);
        Expect.same("closed", x.tick(1), 3);
        Expect.same("5 before 6: the tick that closes", x.bleeding(0), 0b010001);
        x.want(false);
        Expect.same("opening", x.tick(1), 4);
        Expect.same("5 before 6: the tick that opens", x.bleeding(0), 0);
        x.tick(3);
        Expect.same("fault 8", x.faults(), 256);
        Expect.same("5 before 6: the tick of fault 8", x.bleeding(0), 0);
    }

    private static void allBeforeTheBlock() {
        CellKeeper x = new CellKeeper(1, 2, 10, 1, 50);
        x.set(500);
        Bench.level(x, 3700);
        x.want(true);
        x.tick(1);
        x.current(0.5);
        x.warm(0, 60.125);
        x.tick(1);
        Bench.sameBlock("1 to 6 before 7", x, 0, Bench.block(1, 2, (long) (499.5 * 8192), 16, 4));
    }

    private static void timeGrows() {
        Sentence.of("Terms", "1 TIME, an int, grows by 1 (it wraps);");
        CellKeeper x = new CellKeeper(1, 2, 10, 20, 50);
        x.tick(1);
        Expect.same("one tick", x.time(), 1);
        x.tick(99);
        Expect.same("a hundred", x.time(), 100);
        Bench.forge(x, 0, Bench.block(1001, Integer.MAX_VALUE - 1, 0, 0, 0));
        x.power();
        x.tick(1);
        Expect.same("the greatest", x.time(), Integer.MAX_VALUE);
        x.tick(1);
        Expect.same("it wraps", x.time(), Integer.MIN_VALUE);
        x.tick(1);
        Expect.same("it goes on", x.time(), Integer.MIN_VALUE + 1);
        CellKeeper y = new CellKeeper(1, 2, 10, 20, 50);
        Bench.forge(y, 0, Bench.block(1, -1, 0, 0, 0));
        y.power();
        y.tick(1);
        Expect.same("from -1", y.time(), 0);
    }

    private static void chipsGetStale() {
        Sentence.of("Terms", "chips get STALE as told.");
        CellKeeper x = Bench.half(1);
        x.tick(10);
        Expect.same("not yet", x.count(0), 0);
        x.tick(1);
        Expect.same("in the eleventh tick itself", x.count(0), 1);
        CellKeeper wrapped = new CellKeeper(1, 2, 10, 20, 50);
        Bench.forge(wrapped, 0, Bench.block(1, Integer.MAX_VALUE - 4, 0, 0, 0));
        wrapped.power();
        Bench.level(wrapped, 3700);
        wrapped.tick(10);
        Expect.same("ten ticks over the wrap of TIME", wrapped.valid(0, 0), true);
        wrapped.tick(1);
        Expect.same("eleven ticks over the wrap of TIME", wrapped.valid(0, 0), false);
    }

    private static void chargeIsBounded() {
        Sentence.of("Terms", "2 CHARGE becomes CHARGE less the current, but not below 0 or above CAPACITY;");
        double[][] rows = {{500, 499.875, 0.125}, {500, 500, 0}, {500, 500.125, 0}, {0, 2000, 0}, {0.125, 0.25, 0},
            {500, -499.875, 999.875}, {500, -500, 1000}, {500, -500.125, 1000}, {1000, -2000, 1000}, {1000, 0.125, 999.875}};
        for (double[] row : rows) {
            CellKeeper x = new CellKeeper(1, 2, 10, 20, 50);
            x.set(row[0]);
            x.current(row[1]);
            x.tick(1);
            Expect.near(row[0] + " less " + row[1], x.charge(), row[2]);
        }
    }

    private static void throughGrows() {
        Sentence.of("Terms", "THROUGH, which begins with 0, grows by the size of the current,");
        CellKeeper x = new CellKeeper(1, 2, 10, 20, 50);
        Expect.near("at first", x.through(), 0);
        x.tick(1);
        Expect.near("no current", x.through(), 0);
        x.current(0.125);
        x.tick(1);
        Expect.near("given", x.through(), 0.125);
        x.current(-3.5);
        x.tick(2);
        Expect.near("taken, though the battery was full or empty", x.through(), 7.125);
    }

    private static void throughLoses() {
        Sentence.of("Terms", "and loses 10,000 as long as it has as much.");
        double[][] rows = {{1999.875, 9999.875}, {2000, 0}, {-2000, 0}, {-1999.875, 9999.875}};
        for (double[] row : rows) {
            CellKeeper x = new CellKeeper(1, 2, 10, 20, 50);
            x.current(2000);
            x.tick(4);
            Expect.near("below", x.through(), 8000);
            x.current(row[0]);
            x.tick(1);
            Expect.near("8000 and " + row[0], x.through(), row[1]);
            x.current(0.125);
            x.tick(1);
            Expect.near("and 0.125", x.through(), (row[1] + 0.125) % 10000);
            x.current(-2000);
            x.tick(100);
            Expect.near("and 200,000", x.through(), (row[1] + 0.125) % 10000);
        }
    }

    private static void restIsCounted() {
        Sentence.of("Terms", "REST is how many ticks one behind the other the size of the current was below 0.5 (with this one).");
        double[][] rows = {{0.375, 1}, {-0.375, 1}, {0, 1}, {0.5, 0}, {-0.5, 0}, {0.625, 0}};
        for (double[] row : rows) {
            CellKeeper x = new CellKeeper(1, 2, 10, 20, 50);
            x.set(500);
            x.current(row[0]);
            Bench.run(x, 3000, 60);
            Expect.near("rest with " + row[0], x.charge(), row[1] == 1 ? 0 : 500 - 60 * row[0]);
        }
        CellKeeper x = new CellKeeper(1, 2, 10, 20, 50);
        x.set(500);
        x.tick(59);
        x.current(-0.5);
        x.tick(1);
        x.current(0);
        x.tick(49);
        Bench.level(x, 3000);
        x.tick(10);
        Expect.near("59 and, behind another one, 59", x.charge(), 500.5);
        x.tick(1);
        Expect.near("stale", x.charge(), 500.5);
        Bench.level(x, 3000);
        x.tick(1);
        Expect.near("61", x.charge(), 0);
        x.current(0.5);
        x.tick(1);
        x.set(500);
        x.current(0);
        Bench.run(x, 3000, 59);
        Expect.near("59 anew", x.charge(), 500);
        Bench.run(x, 3000, 1);
        Expect.near("60 anew", x.charge(), 0);
    }

    private static void restOfSixty() {
        Sentence.of("Terms", "If REST is 60 or more and all cells are VALID,");
        CellKeeper x = new CellKeeper(2, 2, 10, 20, 50);
        x.set(500);
        Bench.run(x, 3000, 59);
        Expect.near("59", x.charge(), 500);
        Bench.run(x, 3000, 1);
        Expect.near("60", x.charge(), 0);
        x.set(400);
        Bench.run(x, 3000, 1);
        Expect.near("61", x.charge(), 0);
        for (int chip = 0; chip < 2; chip++) {
            for (int cell = 0; cell < 6; cell++) {
                x.set(400);
                Bench.level(x, 3000);
                Bench.tell(x, chip, 1 << cell, 3000, 3000, 3000, 3000, 3000, 3000);
                x.tick(1);
                Expect.near("cell " + cell + " of chip " + chip + " is not valid", x.charge(), 400);
            }
        }
        Bench.level(x, 3000);
        x.tick(1);
        Expect.near("all are valid again", x.charge(), 0);
    }

    /** The charge that a rest tells of these numbers, in a keeper of one chip. */
    private static double rested(int capacity, int... numbers) {
        CellKeeper x = new CellKeeper(1, 2, capacity, 20, 50);
        x.set(77);
        x.tick(55);
        Bench.tell(x, 0, 0, numbers);
        x.tick(5);
        return x.charge();
    }

    private static void dueParts(int mean, int parts) {
        Expect.near("at " + mean, rested(3, mean, mean, mean, mean, mean, mean), 300 * parts / 1024.0);
    }

    private static void chargeIsExact() {
        Sentence.of("Terms", "CHARGE becomes CAPACITY * f / 1024 exactly,");
        Expect.near("f 1 of 100", rested(1, 3003, 3003, 3003, 3003, 3003, 3003), 0.09765625);
        Expect.near("f 1023 of 100", rested(1, 4149, 4149, 4149, 4149, 4149, 4149), 99.90234375);
        Expect.near("f 1 of 400,000", rested(4000, 3003, 3003, 3003, 3003, 3003, 3003), 390.625);
        Expect.near("f 103 of 399,900", rested(3999, 3302, 3302, 3302, 3302, 3302, 3302), 40224.31640625);
    }

    private static void meanIsFloored() {
        Sentence.of("Terms", "f being told by the mean m of all numbers (FLOOR):");
        Expect.near("3302 and 5 of 6", rested(3, 3302, 3302, 3302, 3302, 3302, 3307), 300 * 103 / 1024.0);
        Expect.near("3303", rested(3, 3302, 3302, 3302, 3302, 3302, 3308), 300 * 104 / 1024.0);
        CellKeeper x = new CellKeeper(4, 2, 3, 20, 50);
        x.tick(55);
        Bench.level(x, 3500);
        Bench.tell(x, 3, 0, 3500, 3500, 3500, 3500, 3500, 3523);
        x.tick(5);
        Expect.near("of four chips, 3500 and 23 of 24", x.charge(), 300 * 256 / 1024.0);
        Bench.tell(x, 3, 0, 3500, 3500, 3500, 3500, 3500, 3524);
        x.tick(1);
        Expect.near("of four chips, 3501", x.charge(), 300 * 257 / 1024.0);
    }

    private static void nothingUpTo3000() {
        Sentence.of("Terms", "0 up to 3000,");
        dueParts(500, 0);
        dueParts(2999, 0);
        dueParts(3000, 0);
        dueParts(3003, 1);
    }

    private static void allFrom4150() {
        Sentence.of("Terms", "1024 from 4150 on,");
        dueParts(4149, 1023);
        dueParts(4150, 1024);
        dueParts(4151, 1024);
        dueParts(4999, 1024);
    }

    private static void pointsOfRest() {
        Sentence.of("Terms", "and at 3300, 3500, 3650, 3800, 4000 it is 102, 256, 512, 717, 922;");
        dueParts(3300, 102);
        dueParts(3500, 256);
        dueParts(3650, 512);
        dueParts(3800, 717);
        dueParts(4000, 922);
    }

    private static void betweenPoints() {
        Sentence.of("Terms", "between two of these it is FLOOR(f + (f' - f) * (m - v) / (v' - v)).");
        int[][] rows = {{3001, 0}, {3002, 0}, {3003, 1}, {3150, 51}, {3299, 101}, {3301, 102}, {3302, 103}, {3499, 255},
            {3501, 257}, {3649, 510}, {3651, 513}, {3799, 715}, {3801, 718}, {3999, 920}, {4001, 922}, {4002, 923},
            {4148, 1022}};
        for (int[] row : rows) {
            dueParts(row[0], row[1]);
        }
    }
}
