import java.math.BigInteger;

/** Makes replies and blocks with right checks, and keepers in states that tests begin with. */
final class Bench {
    private static final BigInteger DIVISOR = BigInteger.valueOf(1L << 15 | 17817);

    private Bench() {
    }

    /** The check as the remainder of a long division of bits: another way than the program's. */
    static int check(byte[] row, int from, int length) {
        byte[] part = new byte[length + 1];
        System.arraycopy(row, from, part, 1, length);
        BigInteger rest = new BigInteger(part).shiftLeft(15);
        for (int bit = rest.bitLength() - 1; bit >= 15; bit = rest.bitLength() - 1) {
            rest = rest.xor(DIVISOR.shiftLeft(bit - 15));
        }
        return rest.intValueExact();
    }

    /** The two longs of a reply with a right check. */
    static long[] reply(int status, int... numbers) {
        byte[] row = new byte[16];
        for (int i = 0; i < 6; i++) {
            row[2 * i] = (byte) (numbers[i] >> 8);
            row[2 * i + 1] = (byte) numbers[i];
        }
        row[12] = (byte) (status >> 8);
        row[13] = (byte) status;
        int check = check(row, 0, 14);
        row[14] = (byte) (check >> 8);
        row[15] = (byte) check;
        return new long[] {new BigInteger(row).shiftRight(64).longValue(), new BigInteger(row).longValue()};
    }

    static boolean tell(CellKeeper x, int chip, int status, int... numbers) {
        long[] reply = reply(status, numbers);
        return x.reply(chip, reply[0], reply[1]);
    }

    /** All six cells of every chip with one number. */
    static void level(CellKeeper x, int number) {
        for (int chip = 0; chip < x.chips(); chip++) {
            Expect.same("a level reply", tell(x, chip, 0, number, number, number, number, number, number), true);
        }
    }

    /** A keeper that is half full, at 3700, with DEBOUNCE 20 and EVERY 50: no cause is so. */
    static CellKeeper half(int chips) {
        CellKeeper x = new CellKeeper(chips, 2, 10, 20, 50);
        x.set(500);
        level(x, 3700);
        return x;
    }

    /** A keeper that power came to with the faults of a block, half full, at 3700. */
    static CellKeeper withFaults(int faults) {
        CellKeeper x = new CellKeeper(1, 2, 10, 20, 50);
        forge(x, 0, block(1, 0, 500 * 8192, faults, 0));
        x.power();
        level(x, 3700);
        return x;
    }

    /** Ticks with fresh level replies before each ten: no chip becomes stale. */
    static int run(CellKeeper x, int number, int ticks) {
        int state = 0;
        for (int left = ticks; left > 0; left -= 10) {
            level(x, number);
            state = x.tick(Math.min(10, left));
        }
        return state;
    }

    /** The 32 bytes of a block, with a right check. */
    static byte[] block(int number, int time, long parts, int faults, int state) {
        byte[] row = new byte[32];
        lay(row, 0, 4, number);
        lay(row, 4, 4, time);
        lay(row, 8, 8, parts);
        lay(row, 16, 2, faults);
        lay(row, 18, 2, state);
        lay(row, 30, 2, check(row, 0, 30));
        return row;
    }

    private static void lay(byte[] row, int at, int length, long value) {
        for (int i = 0; i < length; i++) {
            row[at + i] = (byte) (value >> 8 * i);
        }
    }

    /** Puts a block at a place of the journal, by spoil alone. */
    static void forge(CellKeeper x, int place, byte[] block) {
        for (int i = 0; i < 32; i++) {
            x.spoil(32 * place + i, x.journal(32 * place + i) ^ block[i] & 0xFF);
        }
    }

    static void sameBlock(String what, CellKeeper x, int place, byte[] due) {
        for (int i = 0; i < 32; i++) {
            Expect.same(what + ", byte " + i, x.journal(32 * place + i), due[i] & 0xFF);
        }
    }

    /** One chip at 3700, half full, contactors closed behind tick 4; EVERY is 50. */
    static CellKeeper closed(int debounce) {
        CellKeeper x = new CellKeeper(1, 2, 100, debounce, 50);
        x.set(5000);
        level(x, 3700);
        x.want(true);
        x.bus(22200);
        Expect.same("closing", x.tick(4), 3);
        return x;
    }

    /** Every answer that a keeper can give, as the other one gives it. */
    static void sameKeepers(String what, CellKeeper x, CellKeeper y) {
        Expect.same(what + ", off", x.off(), y.off());
        for (int i = 0; i < 64; i++) {
            Expect.same(what + ", byte " + i, x.journal(i), y.journal(i));
        }
        if (x.off() || y.off()) {
            return;
        }
        Expect.same(what + ", time", x.time(), y.time());
        Expect.near(what + ", charge", x.charge(), y.charge());
        Expect.near(what + ", through", x.through(), y.through());
        Expect.near(what + ", to be given", x.allowed(false), y.allowed(false));
        Expect.near(what + ", to be taken", x.allowed(true), y.allowed(true));
        Expect.same(what + ", faults", x.faults(), y.faults());
        for (int cause = 0; cause < 7; cause++) {
            Expect.same(what + ", count of " + cause, x.count(cause), y.count(cause));
        }
        for (int chip = 0; chip < y.chips(); chip++) {
            Expect.same(what + ", bleeding of " + chip, x.bleeding(chip), y.bleeding(chip));
            for (int cell = 0; cell < 6; cell++) {
                Expect.same(what + ", valid " + chip + " " + cell, x.valid(chip, cell), y.valid(chip, cell));
            }
        }
    }

    /** A keeper whose power a cut took in its first tick. */
    static CellKeeper dark() {
        CellKeeper x = new CellKeeper(2, 2, 10, 20, 1);
        x.cut(0);
        x.tick(1);
        Expect.same("off() behind a cut", x.off(), true);
        return x;
    }
}
