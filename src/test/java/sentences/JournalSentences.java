import java.util.Arrays;

/** Terms: when a tick writes (7), the journal, and what power takes from it. */
final class JournalSentences {
    private static final int FILL = 0xA5;

    private JournalSentences() {
    }

    static void tell() {
        newFaultsAreWritten();
        everyDividesTime();
        journalHasBlocks();
        numbersOfBlocks();
        placesOfBlocks();
        numberAndByteOrder();
        timeOfABlock();
        chargeOfABlock();
        faultsOfABlock();
        stateOfABlock();
        restOfABlock();
        checkOfABlock();
        bytesAndCuts();
        rightChecks();
        numbersThatAreTaken();
        atItsPlace();
        theGreatestNumber();
        chargeThatIsTaken();
        faultsThatAreTaken();
        signs();
        numbersGoOn();
        withoutABlock();
        allElse();
    }

    private static int newestNumber(CellKeeper x, int blocks) {
        int newest = 0;
        for (int place = 0; place < blocks; place++) {
            newest = Math.max(newest, x.journal(32 * place) + 256 * x.journal(32 * place + 1));
        }
        return newest;
    }

    private static void newFaultsAreWritten() {
        Sentence.of("Terms", "7 if a fault was newly LATCHED in this tick (by 4 or 5),");
        CellKeeper x = new CellKeeper(1, 2, 10, 3, 50);
        x.tick(2);
        Expect.same("no fault yet", newestNumber(x, 2), 0);
        x.tick(1);
        Expect.same("fault 0 by 4", newestNumber(x, 2), 1);
        x.tick(20);
        Expect.same("it is not new any more", newestNumber(x, 2), 1);
        x.warm(0, 61);
        x.tick(3);
        Expect.same("fault 4 by 4", newestNumber(x, 2), 2);
        Bench.level(x, 3700);
        x.warm(0, 20);
        x.tick(1);
        Expect.same("it goes", x.reset(4), true);
        Expect.same("what goes is not written", newestNumber(x, 2), 2);
        x.warm(0, 61);
        x.tick(3);
        Expect.same("fault 4 is new again", newestNumber(x, 2), 3);

        CellKeeper y = new CellKeeper(1, 2, 10, 20, 50);
        y.set(500);
        y.want(true);
        Bench.run(y, 3700, 32);
        Expect.same("no fault yet", newestNumber(y, 2), 0);
        Bench.run(y, 3700, 1);
        Expect.same("fault 7 by 5", newestNumber(y, 2), 1);
        y.bus(1000000);
        Bench.run(y, 3700, 2);
        Expect.same("no other yet", newestNumber(y, 2), 1);
        Bench.run(y, 3700, 1);
        Expect.same("fault 8 by 5", newestNumber(y, 2), 2);

        CellKeeper z = Bench.withFaults(16);
        z.warm(0, 61);
        Bench.run(z, 3700, 25);
        Expect.same("a fault that power brought is not new", newestNumber(z, 2), 1);
    }

    private static void everyDividesTime() {
        Sentence.of("Terms", "or EVERY divides TIME, a BLOCK is written.");
        for (int every : new int[] {1, 2, 7, 50}) {
            CellKeeper x = new CellKeeper(1, 2, 10, 20, every);
            int written = 0;
            for (int tick = 1; tick <= 51; tick++) {
                Bench.level(x, 3700);
                x.tick(1);
                written += tick % every == 0 ? 1 : 0;
                Expect.same("EVERY " + every + ", TIME " + tick, newestNumber(x, 2), written);
            }
        }
        CellKeeper below = new CellKeeper(1, 2, 10, 20, 7);
        Bench.forge(below, 0, Bench.block(1, -9, 0, 0, 0));
        below.power();
        int[] due = {1, 2, 2, 2, 2, 2, 2, 2, 3, 3};
        for (int i = 0; i < due.length; i++) {
            below.tick(1);
            Expect.same("EVERY 7, TIME " + below.time(), newestNumber(below, 2), due[i]);
        }
        CellKeeper both = new CellKeeper(1, 2, 10, 5, 5);
        both.tick(5);
        Expect.same("for both reasons one block", newestNumber(both, 2), 1);
        Bench.sameBlock("for both reasons one block", both, 1, new byte[32]);
    }

    private static void journalHasBlocks() {
        Sentence.of("Terms", "THE JOURNAL has 2 .. 16 BLOCKS of 32 bytes, at first 0.");
        for (int[] row : new int[][] {{1, 2}, {2, 2}, {3, 3}, {16, 16}, {17, 16}}) {
            CellKeeper x = new CellKeeper(1, row[0], 10, 20, 50);
            int length = 32 * row[1];
            for (int i = 0; i < Math.min(500, length); i++) {
                Expect.same("byte " + i, x.journal(i), 0);
            }
            Expect.same("the last byte", x.journal(length - 1), 0);
            Expect.index("a byte behind the last", () -> x.journal(length));
            Expect.index("a byte before the first", () -> x.journal(-1));
        }
    }

    private static void numbersOfBlocks() {
        Sentence.of("Terms", "Blocks that are written have NUMBERS 1, 2, ..;");
        CellKeeper x = new CellKeeper(1, 2, 10, 20, 1);
        for (int number = 1; number <= 15; number++) {
            x.tick(1);
            Expect.same("the newest", newestNumber(x, 2), number);
        }
    }

    private static void placesOfBlocks() {
        Sentence.of("Terms", "number k goes to place (k - 1) modulo how many there are.");
        for (int blocks : new int[] {2, 3, 16}) {
            CellKeeper x = new CellKeeper(1, blocks, 10, 20, 1);
            for (int number = 1; number <= 2 * blocks + 1; number++) {
                int place = (number - 1) % blocks;
                int before = x.journal(32 * ((place + 1) % blocks));
                x.tick(1);
                Expect.same("number " + number + " of " + blocks, x.journal(32 * place), number);
                Expect.same("the place behind it", x.journal(32 * ((place + 1) % blocks)), before);
            }
        }
    }

    private static void bytes(String what, CellKeeper x, int at, int... due) {
        for (int i = 0; i < due.length; i++) {
            Expect.same(what + ", byte " + (at + i), x.journal(at + i), due[i]);
        }
    }

    /** A keeper that power came to with this block as its last, of two. */
    private static CellKeeper behind(int number, int time, long parts, int faults) {
        CellKeeper x = new CellKeeper(1, 2, 4000, 20, 1);
        Bench.forge(x, (number - 1) % 2, Bench.block(number, time, parts, faults, 0));
        x.power();
        return x;
    }

    private static void numberAndByteOrder() {
        Sentence.of("Terms", "A BLOCK: its number (4 bytes, the lowest first, as all here),");
        CellKeeper x = new CellKeeper(1, 2, 10, 20, 1);
        x.tick(1);
        bytes("number 1", x, 0, 1, 0, 0, 0);
        CellKeeper y = behind(0x01020303, 0, 0, 0);
        y.tick(1);
        bytes("number 16909060", y, 32, 4, 3, 2, 1);
        CellKeeper z = behind(255, 0, 0, 0);
        z.tick(1);
        bytes("number 256", z, 32, 0, 1, 0, 0);
    }

    private static void timeOfABlock() {
        Sentence.of("Terms", "TIME (4),");
        CellKeeper x = behind(1, 0x01020303, 0, 0);
        x.tick(1);
        bytes("time 16909060", x, 36, 4, 3, 2, 1);
        CellKeeper y = behind(1, -3, 0, 0);
        y.tick(1);
        bytes("time -2", y, 36, 254, 255, 255, 255);
        CellKeeper z = behind(1, Integer.MAX_VALUE, 0, 0);
        z.tick(1);
        bytes("the least time", z, 36, 0, 0, 0, 128);
    }

    private static void chargeOfABlock() {
        Sentence.of("Terms", "CHARGE in parts of 8192, cut off (8),");
        CellKeeper x = behind(1, 0, 0, 0);
        x.set(0.125);
        x.tick(1);
        bytes("0.125", x, 40, 0, 4, 0, 0, 0, 0, 0, 0);
        x.set(400000);
        x.tick(1);
        bytes("400,000", x, 8, 0x00, 0x00, 0x50, 0xC3, 0, 0, 0, 0);
        CellKeeper y = behind(1, 0, 0x4030201L, 0);
        y.tick(1);
        bytes("67305985 parts", y, 40, 1, 2, 3, 4, 0, 0, 0, 0);
        y.set(0);
        y.tick(1);
        bytes("nothing", y, 8, 0, 0, 0, 0, 0, 0, 0, 0);
        CellKeeper rested = new CellKeeper(1, 2, 1, 20, 1);
        Bench.run(rested, 3003, 60);
        // 100 / 1024 is 800 parts.
        bytes("1 of 1024 parts of 100", rested, 40, 0x20, 3, 0, 0, 0, 0, 0, 0);
    }

    private static void faultsOfABlock() {
        Sentence.of("Terms", "the LATCHED faults (2, fault k being 2^k),");
        for (int fault = 0; fault < 9; fault++) {
            CellKeeper x = behind(1, 0, 0, 1 << fault);
            x.tick(1);
            bytes("fault " + fault, x, 48, (1 << fault) & 255, fault == 8 ? 1 : 0);
        }
        CellKeeper all = behind(1, 0, 0, 0xFFFF);
        all.tick(1);
        bytes("all nine", all, 48, 255, 1);
        CellKeeper none = behind(1, 0, 0, 0xFE00);
        none.tick(1);
        bytes("none", none, 48, 0, 0);
    }

    private static void stateOfABlock() {
        Sentence.of("Terms", "the state (2),");
        CellKeeper x = new CellKeeper(1, 16, 10, 20, 1);
        x.set(500);
        Bench.level(x, 3700);
        x.bus(22200);
        int[] due = {0, 1, 1, 2, 3, 4, 4, 4, 0};
        for (int tick = 0; tick < due.length; tick++) {
            x.want(tick >= 1 && tick <= 4);
            x.tick(1);
            bytes("tick " + tick, x, 32 * tick + 18, due[tick], 0);
        }
    }

    private static void restOfABlock() {
        Sentence.of("Terms", "ten bytes 0,");
        CellKeeper x = new CellKeeper(1, 2, 10, 20, 1);
        for (int i = 0; i < 32; i++) {
            x.spoil(i, 255);
        }
        x.tick(1);
        bytes("what stood there before goes", x, 20, 0, 0, 0, 0, 0, 0, 0, 0, 0, 0);
    }

    private static void checkOfABlock() {
        Sentence.of("Terms", "the CHECK of all this (2).");
        CellKeeper x = new CellKeeper(1, 2, 10, 20, 1);
        x.set(500);
        for (int number = 1; number <= 6; number++) {
            x.tick(1);
            byte[] due = Bench.block(number, number, 500 * 8192, 0, 0);
            bytes("block " + number, x, 32 * ((number - 1) % 2) + 30, due[30] & 255, due[31] & 255);
        }
    }

    private static void bytesAndCuts() {
        Sentence.of("Terms", "Its bytes are written one by one; if a CUT is set, just so many, then the power is OFF.");
        byte[] block = Bench.block(1, 1, 7 * 8192, 0, 0);
        for (int n = 0; n <= 32; n++) {
            CellKeeper x = new CellKeeper(1, 2, 10, 20, 1);
            x.set(7);
            for (int i = 0; i < 32; i++) {
                x.spoil(i, FILL);
            }
            x.cut(n);
            x.tick(1);
            byte[] due = block.clone();
            Arrays.fill(due, n, 32, (byte) FILL);
            Bench.sameBlock("a cut behind " + n, x, 0, due);
            Expect.same("off behind " + n, x.off(), n < 32);
        }
    }

    private static void rightChecks() {
        Sentence.of("Terms", "POWER comes: of all blocks whose CHECK is right,");
        for (int bit = 0; bit < 256; bit++) {
            CellKeeper x = new CellKeeper(1, 2, 10, 20, 1);
            Bench.forge(x, 0, Bench.block(5, 50, 8192, 0, 0));
            Bench.forge(x, 1, Bench.block(6, 60, 8192, 0, 0));
            x.spoil(32 + bit / 8, 1 << bit % 8);
            Expect.same("bit " + bit + " is wrong", x.power(), 50);
            x.spoil(32 + bit / 8, 1 << bit % 8);
            Expect.same("it is right again", x.power(), 60);
        }
        byte[] odd = Bench.block(6, 70, 8192, 0, 9);
        odd[25] = 77;
        int check = Bench.check(odd, 0, 30);
        odd[30] = (byte) check;
        odd[31] = (byte) (check >> 8);
        CellKeeper x = new CellKeeper(1, 2, 10, 20, 1);
        Bench.forge(x, 1, odd);
        Expect.same("only the check counts, not the state, nor the bytes that are 0 else", x.power(), 70);
    }

    private static void numbersThatAreTaken() {
        Sentence.of("Terms", "whose number is 1 .. 1,000,000,000");
        int[][] rows = {{0, 0}, {1, 1}, {2, 1}, {999999999, 1}, {1000000000, 1}, {1000000001, 0}, {1000000002, 0},
            {Integer.MAX_VALUE, 0}, {Integer.MIN_VALUE, 0}, {-1, 0}, {-2, 0}};
        for (int blocks : new int[] {2, 3, 7, 16}) {
            for (int[] row : rows) {
                int taken = 0;
                for (int place = 0; place < blocks; place++) {
                    CellKeeper x = new CellKeeper(1, blocks, 10, 20, 1);
                    Bench.forge(x, place, Bench.block(row[0], 99, 0, 0, 0));
                    taken += x.power() == 99 ? 1 : 0;
                }
                Expect.same("places that number " + row[0] + " is taken from, of " + blocks, taken, row[1]);
            }
        }
    }

    private static void atItsPlace() {
        Sentence.of("Terms", "and at its place,");
        for (int blocks : new int[] {2, 3, 16}) {
            for (int number : new int[] {1, 2, 16, 17, 1000000000}) {
                for (int place = 0; place < blocks; place++) {
                    CellKeeper x = new CellKeeper(1, blocks, 10, 20, 1);
                    Bench.forge(x, place, Bench.block(number, 99, 0, 0, 0));
                    boolean right = (number - 1) % blocks == place;
                    Expect.same("number " + number + " at " + place + " of " + blocks, x.power(), right ? 99 : 0);
                }
            }
        }
    }

    private static void theGreatestNumber() {
        Sentence.of("Terms", "the one with the greatest number is taken:");
        int[][] rows = {{1, 2, 2}, {3, 2, 3}, {255, 256, 256}, {257, 256, 257}, {511, 512, 512}, {65535, 65536, 65536},
            {999999999, 1000000000, 1000000000}, {16777217, 16777216, 16777217}, {1, 1000000000, 1000000000}};
        for (int[] row : rows) {
            CellKeeper x = new CellKeeper(1, 2, 10, 20, 1);
            // The times go the other way.
            Bench.forge(x, 0, Bench.block(row[0], -row[0], 0, 0, 0));
            Bench.forge(x, 1, Bench.block(row[1], -row[1], 0, 0, 0));
            Expect.same("of " + row[0] + " and " + row[1], x.power(), -row[2]);
        }
        CellKeeper x = new CellKeeper(1, 4, 10, 20, 1);
        int[] numbers = {9, 14, 7, 12};
        for (int place = 0; place < 4; place++) {
            Bench.forge(x, place, Bench.block(numbers[place], numbers[place], 0, 0, 0));
        }
        Expect.same("of four", x.power(), 14);
    }

    private static void chargeThatIsTaken() {
        Sentence.of("Terms", "TIME, CHARGE (but 0 if it is below that, CAPACITY if it is above)");
        long full = 1000 * 8192;
        long[][] rows = {{-1, 0}, {0, 0}, {1, 1}, {full - 1, full - 1}, {full, full}, {full + 1, full},
            {Long.MIN_VALUE, 0}, {Long.MAX_VALUE, full}, {1L << 32, full}, {-1L << 32, 0}, {1L << 53, full}};
        for (long[] row : rows) {
            CellKeeper x = new CellKeeper(1, 2, 10, 20, 50);
            Bench.forge(x, 0, Bench.block(1, 31, row[0], 0, 0));
            Expect.same("time", x.power(), 31);
            Expect.near("parts " + row[0], x.charge(), row[1] / 8192.0);
        }
        for (int taken = 0; taken < 4; taken++) {
            CellKeeper x = new CellKeeper(1, 4, 10, 20, 50);
            for (int place = 0; place < 4; place++) {
                int number = place == taken ? 5 + place : 1 + place;
                Bench.forge(x, place, Bench.block(number, 100 + number, number * 4096L, 0x1FF, 0));
            }
            Expect.same("time of the block that is taken, at " + taken, x.power(), 105 + taken);
            Expect.near("charge of the block that is taken, at " + taken, x.charge(), (5 + taken) / 2.0);
        }
    }

    private static void faultsThatAreTaken() {
        Sentence.of("Terms", "and faults (0 .. 8) from there");
        for (int bit = 0; bit < 16; bit++) {
            CellKeeper x = behind(1, 0, 0, 1 << bit);
            Expect.same("fault " + bit, x.faults(), bit <= 8 ? 1 << bit : 0);
        }
        Expect.same("all", behind(1, 0, 0, 0xFFFF).faults(), 0x1FF);
        for (int taken = 0; taken < 4; taken++) {
            CellKeeper x = new CellKeeper(1, 4, 10, 20, 50);
            for (int place = 0; place < 4; place++) {
                Bench.forge(x, place, Bench.block(place == taken ? 5 + place : 1 + place, 0, 0, 1 << place, 0));
            }
            x.power();
            Expect.same("those of the block that is taken, at " + taken, x.faults(), 1 << taken);
        }
    }

    private static void signs() {
        Sentence.of("Terms", "(TIME and CHARGE with their signs),");
        Expect.same("time", behind(1, -1, 0, 0).time(), -1);
        Expect.same("time", behind(1, Integer.MIN_VALUE, 0, 0).time(), Integer.MIN_VALUE);
        Expect.same("time", behind(1, Integer.MAX_VALUE, 0, 0).time(), Integer.MAX_VALUE);
        Expect.near("charge", behind(1, 0, -1, 0).charge(), 0);
        Expect.near("charge", behind(1, 0, Long.MIN_VALUE, 0).charge(), 0);
        Expect.near("charge", behind(1, 0, Long.MAX_VALUE, 0).charge(), 400000);
    }

    private static void numbersGoOn() {
        Sentence.of("Terms", "numbers go on behind it (also beyond what POWER takes);");
        CellKeeper x = behind(7, 0, 0, 0);
        x.tick(1);
        Bench.sameBlock("behind 7", x, 1, Bench.block(8, 1, 0, 0, 0));
        CellKeeper most = behind(1000000000, 4, 0, 0);
        most.tick(1);
        Bench.sameBlock("behind the greatest", most, 0, Bench.block(1000000001, 5, 0, 0, 0));
        Expect.same("power takes the greatest again", most.power(), 4);
        most.tick(2);
        Bench.sameBlock("numbers go on behind that", most, 0, Bench.block(1000000001, 5, 0, 0, 0));
        Bench.sameBlock("and on", most, 1, Bench.block(1000000002, 6, 0, 0, 0));
        Expect.same("now there is none that power takes", most.power(), 0);
        CellKeeper cut = behind(7, 0, 0, 0);
        cut.cut(31);
        cut.tick(1);
        cut.power();
        cut.tick(1);
        Bench.sameBlock("a block that was cut has its number again", cut, 1, Bench.block(8, 1, 0, 0, 0));
    }

    private static void withoutABlock() {
        Sentence.of("Terms", "without one these are 0, and numbers begin with 1.");
        CellKeeper x = new CellKeeper(1, 2, 10, 1, 1);
        x.set(500);
        x.tick(3);
        x.spoil(0, 128);
        x.spoil(32, 128);
        Expect.same("faults before", x.faults(), 1);
        Expect.same("time", x.power(), 0);
        Expect.same("time", x.time(), 0);
        Expect.near("charge", x.charge(), 0);
        Expect.same("faults", x.faults(), 0);
        x.tick(1);
        Bench.sameBlock("number 1", x, 0, Bench.block(1, 1, 0, 1, 0));
        CellKeeper fresh = new CellKeeper(1, 2, 10, 20, 1);
        fresh.set(500);
        Expect.same("a journal that is 0 has none", fresh.power(), 0);
        Expect.near("charge", fresh.charge(), 0);
    }

    private static void allElse() {
        Sentence.of("Terms", "All else is as at first (no CUT, no COUNTS, none bleed).");
        asANewOne();
        openWithoutBus();
        noCounts();
        noReplies();
    }

    private static void asANewOne() {
        CellKeeper x = busy();
        Expect.same("it counts", x.count(5), 4);
        Expect.same("it bleeds", x.bleeding(0), 0b010101);
        x.cut(3);
        x.power();
        CellKeeper first = new CellKeeper(1, 2, 10, 20, 50);
        Bench.forge(first, 0, Bench.block(1, 50, 499 * 8192, 0, 3));
        first.power();
        Bench.sameKeepers("when power came", x, first);
        for (CellKeeper each : new CellKeeper[] {x, first}) {
            each.tick(10);
            Bench.level(each, 3000);
            each.tick(1);
        }
        Bench.sameKeepers("eleven ticks later", x, first);
        for (CellKeeper each : new CellKeeper[] {x, first}) {
            each.tick(39);
            Bench.level(each, 3000);
            each.tick(9);
        }
        Bench.sameKeepers("59 ticks later, no REST before, no CUT", x, first);
        Expect.near("59 ticks of REST", x.charge(), 499);
        Expect.same("no cut", x.off(), false);
    }

    private static void openWithoutBus() {
        CellKeeper x = busy();
        x.power();
        Expect.same("open", x.tick(1), 0);
        x.want(true);
        Bench.level(x, 3700);
        Expect.same("no bus: it doesn't close", x.tick(5), 2);
        CellKeeper y = busy();
        y.power();
        y.want(true);
        Expect.same("from open", y.tick(1), 1);
        y.want(false);
        Expect.same("open", y.tick(4), 0);
        Expect.same("no bus, though SUM is 0", y.faults(), 0);
    }

    private static void noCounts() {
        for (int cause = 0; cause < 7; cause++) {
            CellKeeper x = new CellKeeper(1, 2, 10, 20, 50);
            Causes.make(x, cause, true);
            x.tick(1);
            Expect.same("count of " + cause, x.count(cause), 1);
            x.power();
            Expect.same("count of " + cause + " when power came", x.count(cause), 0);
            Causes.make(x, cause, true);
            x.tick(1);
            Expect.same("it begins anew", x.count(cause), 1);
        }
    }

    private static void noReplies() {
        CellKeeper x = new CellKeeper(1, 2, 10, 20, 50);
        for (int i = 0; i < 7; i++) {
            x.current(100 * (i % 2));
            Bench.level(x, 3700);
        }
        x.power();
        Expect.same("no reply", x.valid(0, 0), false);
        for (int i = 1; i <= 8; i++) {
            x.current(i == 1 ? 100 : 0);
            Bench.level(x, 3700);
            Expect.same(i + " replies since power came", x.valid(0, 0), i < 8);
        }
        x.power();
        for (int i = 1; i <= 9; i++) {
            Bench.level(x, 3700);
            Expect.same(i + " replies without a current", x.valid(0, 0), true);
        }
    }

    /** Closed, cold, with a current, REST, counts, and cells that bleed; its block is of TIME 50. */
    private static CellKeeper busy() {
        CellKeeper x = new CellKeeper(1, 2, 10, 20, 50);
        x.set(500);
        x.want(true);
        x.bus(1000000);
        Bench.run(x, 3700, 42);
        x.current(0.125);
        Bench.run(x, 3700, 8);
        x.warm(0, -40);
        Bench.tell(x, 0, 0, 3700, 3600, 3700, 3600, 3700, 3600);
        x.tick(4);
        return x;
    }
}
