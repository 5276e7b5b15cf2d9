/** Terms: the currents that a tick (3) allows. */
final class AllowedSentences {
    private AllowedSentences() {
    }

    static void tell() {
        greatestAndLeast();
        heatUpTo45();
        heatFrom61();
        heatBetween();
        coldFrom10();
        coldUpToMinus22();
        coldBetween();
        chargeFromAnEighth();
        chargeBelow();
        productsFirst();
        lackLikewise();
        toBeGiven();
        toBeTaken();
    }

    private static void due(String what, CellKeeper x, int given, int taken) {
        x.tick(1);
        Expect.near(what + ", to be given", x.allowed(false), 300 * given / 64.0);
        Expect.near(what + ", to be taken", x.allowed(true), 150 * taken / 64.0);
    }

    private static void dueAt(double degrees, int share) {
        CellKeeper x = Bench.half(1);
        x.warm(0, degrees);
        due("at " + degrees + " degrees", x, share, share);
    }

    private static void greatestAndLeast() {
        Sentence.of("Terms", "3 ALLOWED currents: with h the greatest and c the least temperature,");
        for (int chip = 0; chip < 4; chip++) {
            CellKeeper x = Bench.half(4);
            x.warm(chip, 55);
            due("chip " + chip + " is the hottest", x, 24, 24);
            x.warm(chip, -15);
            due("chip " + chip + " is the coldest", x, 14, 14);
            x.warm((chip + 1) % 4, 59.5);
            due("another one is the hottest", x, 6, 6);
        }
    }

    private static void heatUpTo45() {
        Sentence.of("Terms", "let H be 64 up to h 45,");
        dueAt(44.875, 64);
        dueAt(45, 64);
        dueAt(45.125, 63);
    }

    private static void heatFrom61() {
        Sentence.of("Terms", "0 from 61 on,");
        dueAt(60.75, 1);
        dueAt(61, 0);
        for (double above = 61.125; above <= 63; above += 0.125) {
            dueAt(above, 0);
        }
        dueAt(200, 0);
    }

    private static void heatBetween() {
        Sentence.of("Terms", "else FLOOR(64 - 4 * (h - 45));");
        double[][] rows = {{45.125, 63}, {45.25, 63}, {45.375, 62}, {45.5, 62}, {46, 60}, {53, 32}, {60, 4}, {60.5, 2},
            {60.625, 1}, {60.875, 0}};
        for (double[] row : rows) {
            dueAt(row[0], (int) row[1]);
        }
    }

    private static void coldFrom10() {
        Sentence.of("Terms", "C 64 from c 10 on,");
        dueAt(9.875, 63);
        dueAt(10, 64);
        dueAt(10.125, 64);
        dueAt(40, 64);
    }

    private static void coldUpToMinus22() {
        Sentence.of("Terms", "0 up to -22,");
        dueAt(-21.5, 1);
        dueAt(-22, 0);
        for (double below = -22.125; below >= -24; below -= 0.125) {
            dueAt(below, 0);
        }
        dueAt(-100, 0);
    }

    private static void coldBetween() {
        Sentence.of("Terms", "else FLOOR(2 * (c + 22));");
        double[][] rows = {{9.875, 63}, {9.5, 63}, {9.375, 62}, {0, 44}, {-0.125, 43}, {-0.5, 43}, {-0.625, 42}, {-21.5, 1},
            {-21.625, 0}, {-21.875, 0}};
        for (double[] row : rows) {
            dueAt(row[0], (int) row[1]);
        }
    }

    private static CellKeeper with(int capacity, double charge) {
        CellKeeper x = new CellKeeper(1, 2, capacity, 20, 50);
        x.set(charge);
        return x;
    }

    private static void chargeFromAnEighth() {
        Sentence.of("Terms", "G 64 from CHARGE CAPACITY / 8 on,");
        due("just below", with(1, 12.375), 63, 64);
        due("just so much", with(1, 12.5), 64, 64);
        due("just above", with(1, 12.625), 64, 64);
        due("the greatest capacity, just below", with(4000, 49999.875), 63, 64);
        due("the greatest capacity, just so much", with(4000, 50000), 64, 64);
        due("full", with(1, 100), 64, 0);
    }

    private static void chargeBelow() {
        Sentence.of("Terms", "else FLOOR(512 * CHARGE / CAPACITY)");
        double[][] rows = {{0, 0}, {0.125, 0}, {1.875, 0}, {2, 1}, {3.875, 1}, {4, 2}, {62.375, 31}, {62.5, 32}, {124.875, 63}};
        for (double[] row : rows) {
            due("a charge of " + row[0], with(10, row[0]), (int) row[1], 64);
        }
    }

    private static void productsFirst() {
        Sentence.of("Terms", "(the products first: the greatest whole k with k * CAPACITY not above 512 * CHARGE;"
                + " percent() likewise);");
        for (int capacity : new int[] {1, 3, 7, 37, 999, 4000}) {
            for (int k = 1; k <= 64; k++) {
                CellKeeper x = with(capacity, 0);
                double least = Math.ceil(100.0 * capacity * k / 512 * 8) / 8;
                x.set(least);
                due("the least charge for " + k, x, k, 64);
                x.set(least - 0.125);
                due("less than that", x, below(capacity, least - 0.125), 64);
            }
        }
        for (int capacity : new int[] {1, 3, 7, 37, 999, 4000}) {
            CellKeeper x = with(capacity, 0);
            for (int percent = 1; percent <= 100; percent++) {
                x.set(capacity * percent);
                Expect.same("just " + percent + " of 100", x.percent(), percent);
                x.set(capacity * percent - 0.125);
                Expect.same("just below " + percent + " of 100", x.percent(), percent - 1);
            }
        }
    }

    /** In whole numbers: the greatest k with k * CAPACITY not above 512 * CHARGE. */
    private static int below(int capacity, double charge) {
        long eighths = Math.round(charge * 8);
        return (int) Math.min(64, 512 * eighths / (800L * capacity));
    }

    private static void lackLikewise() {
        Sentence.of("Terms", "L likewise of CAPACITY less CHARGE.");
        double[][] rows = {{0, 0}, {0.125, 0}, {1.875, 0}, {2, 1}, {3.875, 1}, {62.5, 32}, {124.875, 63}, {125, 64}, {125.125, 64},
            {500, 64}};
        for (double[] row : rows) {
            due("a lack of " + row[0], with(10, 1000 - row[0]), 64, (int) row[1]);
        }
    }

    private static void toBeGiven() {
        Sentence.of("Terms", "To be given: 300 * the least of H, C, G / 64;");
        CellKeeper x = Bench.half(2);
        x.tick(1);
        Expect.near("the most", x.allowed(false), 300);
        x.set(2);
        x.tick(1);
        Expect.near("the least but nothing", x.allowed(false), 4.6875);
        leastOfThree(false, 4.6875);
    }

    private static void toBeTaken() {
        Sentence.of("Terms", "to be taken: 150 * the least of H, C, L / 64.");
        CellKeeper x = Bench.half(2);
        x.tick(1);
        Expect.near("the most", x.allowed(true), 150);
        x.set(998);
        x.tick(1);
        Expect.near("the least but nothing", x.allowed(true), 2.34375);
        leastOfThree(true, 2.34375);
    }

    /** Each of the three is once the least; the charge that doesn't count is on the other side. */
    private static void leastOfThree(boolean taking, double part) {
        double[][] rows = {{55, 0, 40, 24}, {50, -12, 40, 20}, {50, 0, 32, 32}};
        for (double[] row : rows) {
            CellKeeper x = Bench.half(2);
            x.warm(0, row[0]);
            x.warm(1, row[1]);
            double room = row[2] * 1000 / 512;
            x.set(taking ? 1000 - room : room);
            x.tick(1);
            Expect.near("the least is " + row[3], x.allowed(taking), row[3] * part);
        }
    }
}
