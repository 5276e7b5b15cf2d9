import java.math.BigInteger;
import java.util.ArrayList;
import java.util.Arrays;
import java.util.List;

/**
 * The document's words once more, in whole numbers and with all that ever was kept, for random
 * runs to be held against. Slow and plain; it shares nothing with the program.
 */
final class Model {
    private static final class Used {
        int[] numbers = new int[6];
        int status;
        long current;
        long behind;
    }

    private static final long PARTS = 8192;

    final int chips;
    final int blocks;
    final long capacity;
    final int debounce;
    final int every;
    final int[] journal;

    private List<List<Used>> used;
    private long ticksSincePower;
    private long[] degrees;
    private long current;
    private long charge;
    private long through;
    private long rest;
    private int time;
    private int bus;
    private boolean wanted;
    private int given;
    private int taken;
    private int[] counts;
    private boolean[] latched;
    private int state;
    private int stateTicks;
    private int[] bleeding;
    private long number;
    private int cut;
    private boolean off;

    Model(int chips, int blocks, int capacity, int debounce, int every) {
        this.chips = Math.min(4, Math.max(1, chips));
        this.blocks = Math.min(16, Math.max(2, blocks));
        this.capacity = Math.min(4000, Math.max(1, capacity)) * 100 * PARTS;
        this.debounce = Math.min(20, Math.max(1, debounce));
        this.every = Math.min(50, Math.max(1, every));
        this.journal = new int[32 * this.blocks];
        atFirst();
    }

    private void atFirst() {
        used = new ArrayList<>();
        for (int i = 0; i < chips; i++) {
            used.add(new ArrayList<>());
        }
        ticksSincePower = 0;
        degrees = new long[chips];
        Arrays.fill(degrees, 20 * 8);
        current = 0;
        charge = 0;
        through = 0;
        rest = 0;
        time = 0;
        bus = 0;
        wanted = false;
        given = 0;
        taken = 0;
        counts = new int[7];
        latched = new boolean[9];
        state = 0;
        stateTicks = 0;
        bleeding = new int[chips];
        number = 1;
        cut = 32;
        off = false;
    }

    private static void index(boolean good) {
        if (!good) {
            throw new IndexOutOfBoundsException();
        }
    }

    private static void argument(boolean good) {
        if (!good) {
            throw new IllegalArgumentException();
        }
    }

    private void powered() {
        if (off) {
            throw new IllegalStateException();
        }
    }

    private static long eighths(double x, long least, long greatest) {
        argument(!Double.isNaN(x) && !Double.isInfinite(x));
        argument(new java.math.BigDecimal(x).multiply(java.math.BigDecimal.valueOf(8)).stripTrailingZeros().scale() <= 0);
        argument(x >= least && x <= greatest);
        return Math.round(x * 8);
    }

    int seal(long a, long b) {
        byte[] row = new byte[16];
        for (int i = 0; i < 8; i++) {
            row[i] = (byte) (a >> 56 - 8 * i);
            row[8 + i] = (byte) (b >> 56 - 8 * i);
        }
        return Bench.check(row, 0, 14);
    }

    boolean reply(int chip, long a, long b) {
        index(chip >= 0 && chip < chips);
        powered();
        if ((b & 0xFFFF) != seal(a, b)) {
            return false;
        }
        BigInteger all = new BigInteger(Long.toUnsignedString(a)).shiftLeft(64).or(new BigInteger(Long.toUnsignedString(b)));
        Used reply = new Used();
        for (int cell = 0; cell < 6; cell++) {
            reply.numbers[cell] = all.shiftRight(112 - 16 * cell).intValue() & 0xFFFF;
        }
        reply.status = all.shiftRight(16).intValue() & 0xFFFF;
        reply.current = current;
        reply.behind = ticksSincePower;
        used.get(chip).add(reply);
        return true;
    }

    void current(double amperes) {
        long told = eighths(amperes, -2000, 2000);
        powered();
        current = told;
    }

    void warm(int chip, double told) {
        index(chip >= 0 && chip < chips);
        long amount = eighths(told, -100, 200);
        powered();
        degrees[chip] = amount;
    }

    void bus(int millivolts) {
        argument(millivolts >= 0 && millivolts <= 1000000);
        powered();
        bus = millivolts;
    }

    void want(boolean closed) {
        powered();
        wanted = closed;
    }

    void set(double q) {
        long told = eighths(q, 0, capacity / PARTS);
        powered();
        charge = told * 1024;
    }

    int tick(int n) {
        argument(n >= 1 && n <= 100);
        powered();
        for (int i = 0; i < n; i++) {
            if (!off) {
                oneTick();
            }
        }
        return state;
    }

    private Used latest(int chip) {
        List<Used> all = used.get(chip);
        return all.isEmpty() ? null : all.get(all.size() - 1);
    }

    private boolean stale(int chip) {
        return latest(chip) == null || ticksSincePower >= latest(chip).behind + 11;
    }

    private boolean stuck(int chip, int cell) {
        List<Used> all = used.get(chip);
        if (all.size() < 8) {
            return false;
        }
        List<Used> eight = all.subList(all.size() - 8, all.size());
        long least = eight.stream().mapToLong(u -> u.current).min().getAsLong();
        long greatest = eight.stream().mapToLong(u -> u.current).max().getAsLong();
        long kinds = eight.stream().mapToInt(u -> u.numbers[cell]).distinct().count();
        return kinds == 1 && greatest > least + 64;
    }

    private boolean good(int chip, int cell) {
        if (stale(chip)) {
            return false;
        }
        int n = latest(chip).numbers[cell];
        return n >= 500 && n <= 4999 && (latest(chip).status & 1 << cell) == 0 && !stuck(chip, cell);
    }

    private List<Integer> goodNumbers() {
        List<Integer> all = new ArrayList<>();
        for (int i = 0; i < 6 * chips; i++) {
            if (good(i / 6, i % 6)) {
                all.add(latest(i / 6).numbers[i % 6]);
            }
        }
        return all;
    }

    private boolean serious() {
        boolean any = false;
        for (int k = 0; k < 9; k++) {
            any |= latched[k] && k != 1 && k != 5;
        }
        return any;
    }

    private void oneTick() {
        boolean[] before = latched.clone();
        time++;
        ticksSincePower++;
        List<Integer> numbers = goodNumbers();
        int sum = numbers.stream().mapToInt(Integer::intValue).sum();
        boolean all = numbers.size() == 6 * chips;
        two(all, sum);
        three();
        four(numbers);
        five(all, sum);
        six(numbers);
        if (!Arrays.equals(before, latched) || Math.floorMod(time, every) == 0) {
            write();
        }
    }

    private void two(boolean all, int sum) {
        charge = Math.min(capacity, Math.max(0, charge - current * 1024));
        through = (through + Math.abs(current)) % 80000;
        rest = Math.abs(current) < 4 ? rest + 1 : 0;
        if (rest >= 60 && all) {
            charge = capacity * partsOf(sum / (6 * chips)) / 1024;
        }
    }

    private static long partsOf(int m) {
        int[][] points = {{3000, 0}, {3300, 102}, {3500, 256}, {3650, 512}, {3800, 717}, {4000, 922}, {4150, 1024}};
        long parts = m <= 3000 ? 0 : 1024;
        for (int i = 0; i < 6; i++) {
            int[] p = points[i];
            int[] q = points[i + 1];
            if (m >= p[0] && m < q[0]) {
                parts = (long) p[1] + Math.floorDiv((q[1] - p[1]) * (m - p[0]), q[0] - p[0]);
            }
        }
        return parts;
    }

    private long hottest() {
        return Arrays.stream(degrees).max().getAsLong();
    }

    private long coldest() {
        return Arrays.stream(degrees).min().getAsLong();
    }

    private long share(long part) {
        return part * 8 >= capacity ? 64 : Math.floorDiv(512 * part, capacity);
    }

    private void three() {
        long h = hottest();
        long c = coldest();
        long heat = h <= 45 * 8 ? 64 : h >= 61 * 8 ? 0 : Math.floorDiv(64 * 8 - 4 * (h - 45 * 8), 8L);
        long cold = c >= 80 ? 64 : c <= -22 * 8 ? 0 : Math.floorDiv(2 * (c + 22 * 8), 8L);
        given = (int) Math.min(Math.min(heat, cold), share(charge));
        taken = (int) Math.min(Math.min(heat, cold), share(capacity - charge));
    }

    private void four(List<Integer> numbers) {
        boolean anyStale = false;
        int live = 0;
        for (int chip = 0; chip < chips; chip++) {
            anyStale |= stale(chip);
            live += stale(chip) ? 0 : 6;
        }
        // In parts of 64 amperes: currents are eighths there.
        boolean[] so = {anyStale, numbers.size() < live,
            numbers.stream().anyMatch(n -> n > 4200), numbers.stream().anyMatch(n -> n < 2500),
            hottest() > 480, coldest() < -240,
            current * 8 > 300L * given + 640 || -current * 8 > 150L * taken + 640};
        for (int k = 0; k < 7; k++) {
            counts[k] = so[k] ? Math.min(255, counts[k] + 1) : 0;
            latched[k] |= counts[k] >= debounce;
        }
    }

    private void five(boolean all, int sum) {
        stateTicks++;
        int was = state;
        boolean leave = !wanted || serious();
        if (was >= 1 && was <= 3 && leave) {
            state = 4;
        } else if (was == 0 && !leave) {
            state = 1;
        } else if (was == 1 && stateTicks == 2) {
            state = 2;
        } else if (was == 2 && all && 20L * bus >= 19L * sum) {
            state = 3;
        } else if (was == 2 && stateTicks == 30) {
            latched[7] = true;
            state = 4;
        } else if (was == 4 && stateTicks == 3) {
            state = 0;
            latched[8] |= 2L * bus > sum;
        }
        stateTicks = state == was ? stateTicks : 0;
    }

    private void six(List<Integer> numbers) {
        boolean may = (state == 0 || state == 3) && !serious() && Math.abs(current) < 16;
        int least = numbers.stream().mapToInt(Integer::intValue).min().orElse(0);
        for (int chip = 0; chip < chips; chip++) {
            bleeding[chip] = 0;
            for (int cell = 0; cell < 6; cell++) {
                if (may && good(chip, cell)) {
                    int n = latest(chip).numbers[cell];
                    boolean bleeds = n > 3300 && n > least + 8 && Math.floorMod(time + (long) cell, 2) == 0;
                    bleeding[chip] += bleeds ? 1 << cell : 0;
                }
            }
        }
    }

    private void write() {
        byte[] block = Bench.block((int) number, time, charge, faultBits(), state);
        int place = (int) ((number - 1) % blocks);
        for (int i = 0; i < cut; i++) {
            journal[32 * place + i] = block[i] & 0xFF;
        }
        number++;
        off = cut < 32;
        cut = 32;
    }

    private int faultBits() {
        int bits = 0;
        for (int k = 0; k < 9; k++) {
            bits += latched[k] ? 1 << k : 0;
        }
        return bits;
    }

    boolean reset(int fault) {
        index(fault >= 0 && fault <= 8);
        powered();
        boolean goes = latched[fault] && (fault >= 7 ? state == 0 : counts[fault] == 0);
        if (goes) {
            latched[fault] = false;
        }
        return goes;
    }

    void cut(int n) {
        argument(n >= 0 && n <= 32);
        powered();
        cut = n;
    }

    private BigInteger field(int at, int length) {
        BigInteger value = BigInteger.ZERO;
        for (int i = length - 1; i >= 0; i--) {
            value = value.multiply(BigInteger.valueOf(256)).add(BigInteger.valueOf(journal[at + i]));
        }
        return value;
    }

    int power() {
        atFirst();
        long best = 0;
        for (int place = 0; place < blocks; place++) {
            byte[] row = new byte[30];
            for (int i = 0; i < 30; i++) {
                row[i] = (byte) journal[32 * place + i];
            }
            long n = field(32 * place, 4).longValueExact();
            boolean right = field(32 * place + 30, 2).intValueExact() == Bench.check(row, 0, 30);
            if (right && n >= 1 && n <= 1000000000 && (n - 1) % blocks == place && n > best) {
                best = n;
            }
        }
        if (best > 0) {
            int at = (int) ((best - 1) % blocks) * 32;
            time = field(at + 4, 4).intValue();
            charge = Math.min(capacity, Math.max(0, field(at + 8, 8).longValue()));
            for (int k = 0; k < 9; k++) {
                latched[k] = field(at + 16, 2).testBit(k);
            }
        }
        number = best + 1;
        return time;
    }

    boolean off() {
        return off;
    }

    int time() {
        powered();
        return time;
    }

    double charge() {
        powered();
        return charge / (double) PARTS;
    }

    int percent() {
        powered();
        return (int) (100 * charge / capacity);
    }

    double through() {
        powered();
        return through / 8.0;
    }

    double allowed(boolean taking) {
        powered();
        return taking ? taken * 2.34375 : given * 4.6875;
    }

    boolean valid(int chip, int cell) {
        index(chip >= 0 && chip < chips && cell >= 0 && cell < 6);
        powered();
        return good(chip, cell);
    }

    int bleeding(int chip) {
        index(chip >= 0 && chip < chips);
        powered();
        return bleeding[chip];
    }

    int faults() {
        powered();
        return faultBits();
    }

    int count(int cause) {
        index(cause >= 0 && cause < 7);
        powered();
        return counts[cause];
    }

    int journal(int i) {
        index(i >= 0 && i < journal.length);
        return journal[i];
    }

    void spoil(int i, int by) {
        index(i >= 0 && i < journal.length);
        argument(by >= 0 && by <= 255);
        journal[i] ^= by;
    }
}
