/** Terms: replies, their check, stale chips, and valid cells. */
final class ReplySentences {
    private static final int POLYNOMIAL = 17817;

    private ReplySentences() {
    }

    static void tell() {
        sixteenBytes();
        twoLongs();
        checkBeginsWith0();
        checkTakesBitsInOrder();
        checkLooksAtBit14();
        checkGoesUp();
        checkPutsUpon();
        onlyARightCheckIsUsed();
        tenTicks();
        sinceTheLatestTick();
        elevenTicks();
        neverUsed();
        cellsOfStaleChips();
        boundsOfNumbers();
        bitsOfTheStatus();
        eightReplies();
        theSameNumber();
        currentsOfEight();
        sumOfValidCells();
    }

    /** The second half with the check that belongs to it. */
    private static long sealed(CellKeeper x, long a, long b) {
        return b & ~0xFFFFL | x.seal(a, b);
    }

    private static void validCells(String what, CellKeeper x, int chip, int due) {
        for (int cell = 0; cell < 6; cell++) {
            Expect.same(what + ", cell " + cell, x.valid(chip, cell), (due >> cell & 1) == 1);
        }
    }

    private static void sixteenBytes() {
        Sentence.of("Terms", "A REPLY of a chip is sixteen bytes: six cells' numbers, a STATUS, a CHECK, two bytes each,"
                + " the higher one first;");
        CellKeeper x = new CellKeeper(1, 2, 10, 20, 50);
        // 3700 is 0E 74; turned about it is 29710.
        long a = 0x0E74_740E_0E74_0E74L;
        long b = sealed(x, a, 0x0E74_740E_0000_0000L);
        Expect.same("a reply", x.reply(0, a, b), true);
        validCells("bytes turned about", x, 0, 0b011101);
        a = 0x0E74_0E74_0E74_0E74L;
        b = sealed(x, a, 0x0E74_0E74_0100_0000L);
        Expect.same("a reply", x.reply(0, a, b), true);
        validCells("status 256", x, 0, 0b111111);
        b = sealed(x, a, 0x0E74_0E74_0001_0000L);
        Expect.same("a reply", x.reply(0, a, b), true);
        validCells("status 1", x, 0, 0b111110);
        long turned = b & ~0xFFFFL | (b & 0xFF) << 8 | b >> 8 & 0xFF;
        Expect.same("a check turned about", x.reply(0, a, turned), false);
    }

    private static void twoLongs() {
        Sentence.of("Terms", "told as two longs, the first eight bytes and the others, the first byte the highest.");
        for (int odd = 0; odd < 6; odd++) {
            CellKeeper x = new CellKeeper(1, 2, 10, 20, 50);
            long mark = 0xFFFFL << 48 - 16 * (odd % 4);
            long a = 0x0E74_0E74_0E74_0E74L | (odd < 4 ? mark : 0);
            long b = sealed(x, a, 0x0E74_0E74_0000_0000L | (odd < 4 ? 0 : mark));
            Expect.same("a reply", x.reply(0, a, b), true);
            validCells("cell " + odd + " is 65535", x, 0, 0b111111 ^ 1 << odd);
        }
    }

    private static void checkBeginsWith0() {
        Sentence.of("Terms", "The CHECK of a row of bytes: begin with 0;");
        CellKeeper x = new CellKeeper(1, 2, 1, 1, 1);
        Expect.same("of bytes 0", x.seal(0, 0), 0);
        Expect.same("bytes 0 before others don't matter", x.seal(0, 0x0001_0000L), POLYNOMIAL);
    }

    private static void checkTakesBitsInOrder() {
        Sentence.of("Terms", "for each bit of them, the highest one of the first byte first:");
        CellKeeper x = new CellKeeper(1, 2, 1, 1, 1);
        int due = POLYNOMIAL;
        for (int behind = 0; behind < 112; behind++) {
            long a = behind < 48 ? 0 : 1L << behind - 48;
            long b = behind < 48 ? 1L << behind + 16 : 0;
            Expect.same("a bit that has " + behind + " behind it", x.seal(a, b), due);
            due = due << 1 & 0x7FFF ^ ((due & 0x4000) != 0 ? POLYNOMIAL : 0);
        }
    }

    private static void checkLooksAtBit14() {
        Sentence.of("Terms", "let m be whether bit 14 of it is other than that bit;");
        CellKeeper x = new CellKeeper(1, 2, 1, 1, 1);
        // 17817 has bit 14, so that a second bit 1 is no other one, and a second bit 0 is.
        Expect.same("bits 1 1", x.seal(0, 0x0003_0000L), POLYNOMIAL << 1 & 0x7FFF);
        Expect.same("bits 1 0", x.seal(0, 0x0002_0000L), POLYNOMIAL << 1 & 0x7FFF ^ POLYNOMIAL);
        Expect.same("bit 1", x.seal(0, 0x0001_0000L), POLYNOMIAL);
        Expect.same("bit 0", x.seal(0, 0), 0);
    }

    private static void checkGoesUp() {
        Sentence.of("Terms", "it goes up by one bit (those beyond bit 14 fall out),");
        CellKeeper x = new CellKeeper(1, 2, 1, 1, 1);
        java.util.Random random = new java.util.Random(6);
        for (int i = 0; i < 500; i++) {
            int check = x.seal(random.nextLong(), random.nextLong());
            Expect.note(check >= 0 && check <= 0x7FFF, "a check of " + check);
        }
    }

    private static void checkPutsUpon() {
        Sentence.of("Terms", "and if m, 17817 is put upon it (where bits differ is 1).");
        CellKeeper x = new CellKeeper(1, 2, 1, 1, 1);
        Expect.same("upon 0", x.seal(0, 0x0001_0000L), 17817);
        Expect.same("upon 2866", x.seal(0, 0x0002_0000L), 20139);
        Expect.same("of many", x.seal(0x0102_0304_0506_0708L, 0x090A_0B0C_0D0E_0000L),
                Bench.check(new byte[] {1, 2, 3, 4, 5, 6, 7, 8, 9, 10, 11, 12, 13, 14}, 0, 14));
    }

    private static void onlyARightCheckIsUsed() {
        Sentence.of("Terms", "A reply is USED if its CHECK is that of its first fourteen bytes.");
        long[] good = Bench.reply(0, 3700, 3701, 3702, 3703, 3704, 3705);
        CellKeeper x = new CellKeeper(1, 2, 1, 1, 1);
        for (int bit = 0; bit < 64; bit++) {
            Expect.same("first half, bit " + bit, x.reply(0, good[0] ^ 1L << bit, good[1]), false);
            Expect.same("second half, bit " + bit, x.reply(0, good[0], good[1] ^ 1L << bit), false);
        }
        Expect.same("none was used", x.valid(0, 0), false);
        Expect.same("all bits right", x.reply(0, good[0], good[1]), true);
        Expect.same("it was used", x.valid(0, 0), true);
    }

    private static void tenTicks() {
        Sentence.of("Terms", "A chip is STALE if no reply of it was used in the last ten ticks");
        CellKeeper x = Bench.half(2);
        x.tick(10);
        Expect.same("ten ticks", x.valid(0, 0), true);
        Bench.tell(x, 0, 0, 3700, 3700, 3700, 3700, 3700, 3700);
        x.tick(1);
        Expect.same("eleven ticks", x.valid(1, 0), false);
        Expect.same("of the other chip, one", x.valid(0, 0), true);
        long[] wrong = Bench.reply(0, 3700, 3700, 3700, 3700, 3700, 3700);
        x.reply(1, wrong[0], wrong[1] ^ 1);
        Expect.same("a reply that was not used", x.valid(1, 0), false);
    }

    private static void sinceTheLatestTick() {
        Sentence.of("Terms", "(nor since the latest one;");
        CellKeeper x = Bench.half(1);
        x.tick(11);
        Expect.same("stale", x.valid(0, 0), false);
        Bench.level(x, 3700);
        Expect.same("before another tick", x.valid(0, 0), true);
    }

    private static void elevenTicks() {
        Sentence.of("Terms", "one that was used behind tick r is too old from tick r + 11 on),");
        for (int r : new int[] {0, 1, 3, 100}) {
            CellKeeper x = new CellKeeper(1, 2, 10, 20, 50);
            if (r > 0) {
                x.tick(r);
            }
            Bench.level(x, 3700);
            x.tick(1);
            Expect.same("tick r + 1", x.valid(0, 5), true);
            Expect.same("tick r + 1", x.count(0), 0);
            x.tick(9);
            Expect.same("tick r + 10", x.valid(0, 5), true);
            Expect.same("tick r + 10", x.count(0), 0);
            x.tick(1);
            Expect.same("tick r + 11", x.valid(0, 5), false);
            Expect.same("tick r + 11", x.count(0), 1);
            x.tick(1);
            Expect.same("tick r + 12", x.count(0), 2);
        }
    }

    private static void neverUsed() {
        Sentence.of("Terms", "or never.");
        CellKeeper x = new CellKeeper(2, 2, 10, 20, 50);
        Expect.same("at first", x.valid(1, 0), false);
        Bench.tell(x, 0, 0, 3700, 3700, 3700, 3700, 3700, 3700);
        Expect.same("the other chip's reply", x.valid(1, 0), false);
        x.tick(1);
        Expect.same("a stale chip", x.count(0), 1);
    }

    private static void cellsOfStaleChips() {
        Sentence.of("Terms", "A cell is VALID if its chip is not STALE,");
        CellKeeper x = Bench.half(2);
        validCells("fresh", x, 1, 0b111111);
        x.tick(5);
        Bench.tell(x, 0, 0, 3700, 3700, 3700, 3700, 3700, 3700);
        x.tick(6);
        validCells("stale", x, 1, 0);
        validCells("the other one", x, 0, 0b111111);
    }

    private static void boundsOfNumbers() {
        Sentence.of("Terms", "its number in the latest used reply is 500 .. 4999,");
        CellKeeper x = new CellKeeper(1, 2, 10, 20, 50);
        Bench.tell(x, 0, 0, 499, 500, 501, 4998, 4999, 5000);
        validCells("at the bounds", x, 0, 0b011110);
        Bench.tell(x, 0, 0, 0, 1, 32768, 65535, 4000, 32767);
        validCells("far away", x, 0, 0b010000);
        Bench.tell(x, 0, 0, 3700 + 32768, 3700 + 16384, 3700 + 8192, 3700 + 4096, 3700, 5001);
        validCells("no bit of a number is left out", x, 0, 0b010000);
        long[] reply = Bench.reply(0, 3700, 3700, 3700, 3700, 3700, 3700);
        x.reply(0, reply[0], reply[1] ^ 1);
        validCells("one that is not used is not the latest", x, 0, 0b010000);
        x.reply(0, reply[0], reply[1]);
        validCells("the latest one", x, 0, 0b111111);
    }

    private static void bitsOfTheStatus() {
        Sentence.of("Terms", "bit 0 .. 5 of the STATUS there (of cell 0 .. 5) is 0,");
        CellKeeper x = new CellKeeper(1, 2, 10, 20, 50);
        for (int bit = 0; bit < 16; bit++) {
            Bench.tell(x, 0, 1 << bit, 3700, 3700, 3700, 3700, 3700, 3700);
            validCells("bit " + bit, x, 0, 0b111111 & ~(1 << bit));
        }
        Bench.tell(x, 0, 0xFFFF, 3700, 3700, 3700, 3700, 3700, 3700);
        validCells("all bits", x, 0, 0);
        Bench.tell(x, 0, 0, 3700, 3700, 3700, 3700, 3700, 3700);
        validCells("the status of the latest one", x, 0, 0b111111);
    }

    private static void eightReplies() {
        Sentence.of("Terms", "and it is not STUCK: eight replies were used,");
        CellKeeper x = new CellKeeper(2, 2, 10, 20, 50);
        for (int i = 1; i <= 10; i++) {
            x.current(100 * (i % 2));
            Bench.tell(x, 0, 0, 3700, 3700, 3700, 3700, 3700, 3700);
            x.reply(0, 0, 1);
            Expect.same(i + " replies", x.valid(0, 0), i < 8);
        }
        Bench.tell(x, 1, 0, 3700, 3700, 3700, 3700, 3700, 3700);
        Expect.same("the other chip has one", x.valid(1, 0), true);
    }

    private static void theSameNumber() {
        Sentence.of("Terms", "the latest eight had the same number for it,");
        CellKeeper x = new CellKeeper(1, 2, 10, 20, 50);
        for (int i = 0; i < 8; i++) {
            x.current(100 * (i % 2));
            int first = i < 1 ? 3701 : 3700;
            int middle = i == 4 ? 3699 : 3700;
            int last = i == 7 ? 3701 : 3700;
            Bench.tell(x, 0, 0, 3700, first, middle, last, 3700 + i % 2, 3700);
        }
        validCells("eight", x, 0, 0b011110);
        x.current(100);
        Bench.tell(x, 0, 0, 3700, 3700, 3700, 3701, 3700, 3701);
        validCells("nine, of which the first is no more among eight", x, 0, 0b111100);
        CellKeeper pause = new CellKeeper(1, 2, 10, 20, 50);
        for (int i = 0; i < 8; i++) {
            pause.current(100 * (i % 2));
            Bench.level(pause, 3700);
            pause.tick(i < 7 ? 11 : 1);
        }
        validCells("eight, between which the chip was stale", pause, 0, 0);
    }

    private static void currentsOfEight() {
        Sentence.of("Terms", "and of the currents when these came (told latest before each) the greatest is more than 8"
                + " above the least.");
        double[][] rows = {{0, 8, 0}, {0, 8.125, 1}, {0, -8, 0}, {0, -8.125, 1}, {-4, 4, 0}, {-4.125, 4, 1}, {4, -4.125, 1},
            {-2000, 2000, 1}, {300, 300, 0}, {-8.125, 0, 1}};
        for (double[] row : rows) {
            for (int at = 0; at < 8; at++) {
                CellKeeper x = new CellKeeper(1, 2, 10, 20, 50);
                for (int i = 0; i < 8; i++) {
                    x.current(i == at ? row[1] : row[0]);
                    Bench.level(x, 3700);
                }
                Expect.same("currents " + row[0] + " and " + row[1] + " at " + at, x.valid(0, 3), row[2] == 0);
            }
        }
        CellKeeper x = new CellKeeper(1, 2, 10, 20, 50);
        for (int i = 0; i < 8; i++) {
            x.current(100);
            x.current(1);
            Bench.level(x, 3700);
        }
        x.current(100);
        Expect.same("currents that were not the latest told before one", x.valid(0, 3), true);
        Bench.level(x, 3700);
        Expect.same("one that was", x.valid(0, 3), false);
        for (int i = 0; i < 7; i++) {
            Bench.level(x, 3700);
            Expect.same("an older current is still among eight", x.valid(0, 3), i == 6);
        }
    }

    private static void sumOfValidCells() {
        Sentence.of("Terms", "SUM is the sum of the numbers of all VALID cells.");
        // Behind OPENING, fault 8 tells whether twice BUS is more than SUM.
        int[][] rows = {{22200, 0}, {22201, 256}};
        for (int[] row : rows) {
            CellKeeper x = openingWithTwoChips();
            x.bus(row[0]);
            x.tick(1);
            Expect.same("all cells, 44400", x.faults(), row[1]);
        }
        rows = new int[][] {{11501, 0}, {11502, 256}};
        for (int[] row : rows) {
            CellKeeper x = openingWithTwoChips();
            Bench.tell(x, 1, 0b000110, 4000, 3700, 3700, 499, 501, 5000);
            Bench.tell(x, 0, 0b000001, 3700, 3700, 3700, 3700, 3700, 3702);
            x.bus(row[0]);
            x.tick(1);
            Expect.same("some cells, 23003", x.faults(), row[1]);
        }
    }

    private static CellKeeper openingWithTwoChips() {
        CellKeeper x = Bench.half(2);
        x.want(true);
        x.tick(1);
        x.want(false);
        Expect.same("opening", x.tick(3), 4);
        return x;
    }
}
