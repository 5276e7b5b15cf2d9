/** Terms: the causes of a tick (4), their counts, and the faults. */
final class CauseSentences {
    private CauseSentences() {
    }

    static void tell() {
        staleChip();
        invalidCell();
        cellAbove4200();
        cellBelow2500();
        above60Degrees();
        belowMinus30Degrees();
        moreThanMayBeGiven();
        moreThanMayBeTaken();
        countsGrow();
        debounce();
        sevenAndEight();
        seriousFaults();
    }

    /** The counts of all causes behind one tick: that of one alone is due, or of none (-1). */
    private static void due(String what, CellKeeper x, int cause) {
        x.tick(1);
        for (int other = 0; other < 7; other++) {
            Expect.same(what + ", count of " + other, x.count(other), other == cause ? 1 : 0);
        }
    }

    private static void staleChip() {
        Sentence.of("Terms", "4 CAUSES: 0 a chip is STALE;");
        for (int chip = 0; chip < 3; chip++) {
            CellKeeper x = new CellKeeper(3, 2, 10, 20, 50);
            x.set(500);
            for (int other = 0; other < 3; other++) {
                if (other != chip) {
                    Bench.tell(x, other, 0, 3700, 3700, 3700, 3700, 3700, 3700);
                }
            }
            due("chip " + chip + " has no reply", x, 0);
        }
        due("none is stale", Bench.half(3), -1);
    }

    private static void invalidCell() {
        Sentence.of("Terms", "1 a cell of a chip that isn't is not VALID;");
        for (int cell = 0; cell < 6; cell++) {
            CellKeeper x = Bench.half(2);
            Bench.tell(x, 1, 1 << cell, 3700, 3700, 3700, 3700, 3700, 3700);
            due("cell " + cell + " is marked", x, 1);
        }
        CellKeeper x = new CellKeeper(2, 2, 10, 20, 50);
        x.set(500);
        Bench.tell(x, 0, 0, 3700, 3700, 3700, 3700, 3700, 3700);
        due("cells of a stale chip don't count", x, 0);
    }

    private static CellKeeper withCell(int chip, int status, int number) {
        CellKeeper x = Bench.half(2);
        Bench.tell(x, chip, status, 3700, 3700, 3700, 3700, 3700, number);
        return x;
    }

    private static void cellAbove4200() {
        Sentence.of("Terms", "2 a VALID cell is above 4200;");
        due("4200", withCell(1, 0, 4200), -1);
        due("4201", withCell(1, 0, 4201), 2);
        due("4201 of chip 0", withCell(0, 0, 4201), 2);
        due("4999", withCell(1, 0, 4999), 2);
        due("5000 is not valid", withCell(1, 0, 5000), 1);
        due("4201, marked", withCell(1, 32, 4201), 1);
    }

    private static void cellBelow2500() {
        Sentence.of("Terms", "3 one is below 2500;");
        due("2500", withCell(1, 0, 2500), -1);
        due("2499", withCell(1, 0, 2499), 3);
        due("2499 of chip 0", withCell(0, 0, 2499), 3);
        due("500", withCell(1, 0, 500), 3);
        due("499 is not valid", withCell(1, 0, 499), 1);
        due("2499, marked", withCell(1, 32, 2499), 1);
        CellKeeper none = new CellKeeper(1, 2, 10, 20, 50);
        none.set(500);
        due("no valid cell is none below", none, 0);
    }

    private static CellKeeper withDegrees(int chip, double degrees) {
        CellKeeper x = Bench.half(2);
        x.warm(chip, degrees);
        return x;
    }

    private static void above60Degrees() {
        Sentence.of("Terms", "4 h is above 60;");
        due("60", withDegrees(1, 60), -1);
        due("60.125", withDegrees(1, 60.125), 4);
        due("60.125 of chip 0", withDegrees(0, 60.125), 4);
        due("200", withDegrees(1, 200), 4);
    }

    private static void belowMinus30Degrees() {
        Sentence.of("Terms", "5 c is below -30;");
        due("-30", withDegrees(1, -30), -1);
        due("-30.125", withDegrees(1, -30.125), 5);
        due("-30.125 of chip 0", withDegrees(0, -30.125), 5);
        due("-100", withDegrees(1, -100), 5);
    }

    /** One chip, a CAPACITY of 10,000, and a current that leaves this charge behind a tick. */
    private static CellKeeper withCurrent(double chargeThen, double amperes) {
        CellKeeper x = new CellKeeper(1, 2, 100, 20, 50);
        x.set(chargeThen + amperes);
        Bench.level(x, 3700);
        x.current(amperes);
        return x;
    }

    private static void moreThanMayBeGiven() {
        Sentence.of("Terms", "6 the current is more than 10 above what may be given,");
        due("310 of 300", withCurrent(5000, 310), -1);
        due("310.125 of 300", withCurrent(5000, 310.125), 6);
        due("10 of nothing", withCurrent(0, 10), -1);
        due("10.125 of nothing", withCurrent(0, 10.125), 6);
        // A charge of 20 of 10,000 gives 1 of 64 parts: 4.6875.
        due("14.625 of 4.6875", withCurrent(20, 14.625), -1);
        due("14.75 of 4.6875", withCurrent(20, 14.75), 6);
        due("2000", withCurrent(5000, 2000), 6);
    }

    private static void moreThanMayBeTaken() {
        Sentence.of("Terms", "or its opposite more than 10 above what may be taken.");
        due("160 of 150", withCurrent(5000, -160), -1);
        due("160.125 of 150", withCurrent(5000, -160.125), 6);
        due("10 of nothing", withCurrent(10000, -10), -1);
        due("10.125 of nothing", withCurrent(10000, -10.125), 6);
        // A lack of 20 of 10,000 takes 1 of 64 parts: 2.34375.
        due("12.25 of 2.34375", withCurrent(9980, -12.25), -1);
        due("12.375 of 2.34375", withCurrent(9980, -12.375), 6);
        due("2000", withCurrent(5000, -2000), 6);
    }

    private static void countsGrow() {
        Sentence.of("Terms", "Each one's COUNT grows by 1 (255 at most) if it is so, else becomes 0;");
        for (int cause = 0; cause < 7; cause++) {
            CellKeeper x = new CellKeeper(1, 2, 10, 20, 50);
            for (int tick = 1; tick <= 3; tick++) {
                Causes.make(x, cause, true);
                x.tick(1);
                Expect.same("count of " + cause, x.count(cause), tick);
            }
            Causes.make(x, cause, false);
            x.tick(1);
            Expect.same("count of " + cause + " when it is not so", x.count(cause), 0);
        }
        CellKeeper x = new CellKeeper(1, 2, 10, 20, 50);
        x.tick(100);
        x.tick(100);
        x.tick(54);
        Expect.same("254 ticks", x.count(0), 254);
        x.tick(1);
        Expect.same("255 ticks", x.count(0), 255);
        x.tick(1);
        Expect.same("256 ticks", x.count(0), 255);
        x.tick(100);
        Expect.same("356 ticks", x.count(0), 255);
        Bench.level(x, 3700);
        x.tick(1);
        Expect.same("else 0", x.count(0), 0);
    }

    private static void debounce() {
        Sentence.of("Terms", "if it is DEBOUNCE or more, the FAULT of this number is LATCHED.");
        for (int cause = 0; cause < 7; cause++) {
            for (int debounce : new int[] {1, 2, 20}) {
                CellKeeper x = new CellKeeper(1, 2, 10, debounce, 50);
                for (int tick = 1; tick <= debounce + 1; tick++) {
                    Causes.make(x, cause, true);
                    x.tick(1);
                    Expect.same("DEBOUNCE " + debounce + ", count " + tick, x.faults(), tick < debounce ? 0 : 1 << cause);
                }
                Causes.make(x, cause, false);
                x.tick(1);
                Expect.same("it stays", x.faults(), 1 << cause);
            }
        }
    }

    private static void sevenAndEight() {
        Sentence.of("Terms", "(FAULTS 7 and 8 come by 5.)");
        CellKeeper x = new CellKeeper(1, 2, 10, 20, 50);
        x.set(500);
        x.want(true);
        Bench.run(x, 3700, 33);
        Expect.same("fault 7 without a count", x.faults(), 128);
        x.bus(1000000);
        Bench.run(x, 3700, 3);
        Expect.same("fault 8 without a count", x.faults(), 128 + 256);
        for (int cause = 0; cause < 7; cause++) {
            Expect.same("count of " + cause, x.count(cause), 0);
        }
    }

    private static void seriousFaults() {
        Sentence.of("Terms", "All nine but 1 and 5 are SERIOUS.");
        for (int fault = 0; fault < 9; fault++) {
            CellKeeper x = Bench.withFaults(1 << fault);
            x.want(true);
            boolean light = fault == 1 || fault == 5;
            Expect.same("fault " + fault, x.tick(1), light ? 1 : 0);
            Expect.same("it stays", x.faults(), 1 << fault);
        }
        CellKeeper both = Bench.withFaults(2 + 32);
        both.want(true);
        Expect.same("1 and 5", both.tick(1), 1);
    }
}
