import java.util.ArrayList;
import java.util.List;
import java.util.Random;
import java.util.function.Function;

/** All promises: random runs of up to 512 calls, each answer held against the model's. */
public final class RandomRunsTest {
    private static final int RUNS = 1500;
    private static final double[] ODD = {Double.NaN, Double.POSITIVE_INFINITY, Double.NEGATIVE_INFINITY, 0.1, -0.0,
        1e9, -1e18, 0.0625, 2000.125, -2000.125, 200.125, -100.125};
    private static final int[] EDGES = {500, 499, 4999, 5000, 4200, 4201, 2500, 2499, 3300, 3301, 3000, 4150, 0, 65535};

    private final Random random;
    private final CellKeeper keeper;
    private final Model model;
    private final String name;
    private final List<String> calls = new ArrayList<>();
    private final boolean calm;
    private int[] levels = {3700, 3700, 3700, 3700, 3700, 3700};
    private int left = 512;

    private RandomRunsTest(int seed) {
        random = new Random(seed);
        int[] of = {any(6), any(19), random.nextBoolean() ? any(40) : any(4200), any(23), any(53)};
        keeper = new CellKeeper(of[0], of[1], of[2], of[3], of[4]);
        model = new Model(of[0], of[1], of[2], of[3], of[4]);
        name = "seed " + seed + ", " + java.util.Arrays.toString(of);
        calm = random.nextInt(3) > 0;
    }

    public static void main(String[] args) {
        int[] states = new int[5];
        int[] faults = new int[9];
        for (int seed = 0; seed < RUNS; seed++) {
            new RandomRunsTest(seed).run(states, faults);
        }
        for (int state = 0; state < 5; state++) {
            Expect.note(states[state] > 100, "state " + state + " was seen but " + states[state] + " times");
        }
        for (int fault = 0; fault < 9; fault++) {
            Expect.note(faults[fault] > 100, "fault " + fault + " was seen but " + faults[fault] + " times");
        }
        Expect.end();
    }

    private int any(int below) {
        return random.nextInt(below);
    }

    private int index(int length) {
        return any(30) == 0 ? new int[] {-1, length, Integer.MIN_VALUE, Integer.MAX_VALUE}[any(4)] : any(length);
    }

    private int number(int least, int greatest) {
        int[] edges = {least, greatest, least - 1, greatest + 1, Integer.MIN_VALUE, Integer.MAX_VALUE};
        return any(20) == 0 ? edges[any(6)] : least + any(greatest - least + 1);
    }

    private void run(int[] states, int[] faults) {
        while (left > 0) {
            step();
            if (!model.off()) {
                for (int fault = 0; fault < 9; fault++) {
                    faults[fault] += model.faults() >> fault & 1;
                }
            }
        }
        for (String call : calls) {
            if (call.startsWith("tick") && call.matches(".*= [0-4]")) {
                states[call.charAt(call.length() - 1) - '0']++;
            }
        }
    }

    /** One call on both; the answer is a text, an exception's name among them. */
    private void both(String what, Function<CellKeeper, Object> real, Function<Model, Object> due) {
        if (left <= 0) {
            return;
        }
        left--;
        String got = answer(real, keeper);
        String want = answer(due, model);
        calls.add(what + " = " + got);
        Expect.note(got.equals(want), name + ", call " + calls.size() + ": " + what + " answered " + got + ", due is " + want);
    }

    private static <T> String answer(Function<T, Object> call, T on) {
        try {
            Object answer = call.apply(on);
            // 0.0 and -0.0 are the same answer.
            return answer instanceof Double d ? String.valueOf(d + 0.0) : String.valueOf(answer);
        } catch (IndexOutOfBoundsException | IllegalArgumentException | IllegalStateException e) {
            return e.getClass().getSimpleName();
        }
    }

    private void step() {
        if (model.off() && any(3) == 0) {
            both("power", x -> x.power(), m -> m.power());
        }
        int dice = any(100);
        if (dice < 24) {
            tellReplies();
        } else if (dice < 46) {
            tick();
        } else if (dice < 62) {
            tellInputs();
        } else if (dice < 86) {
            ask();
        } else if (dice < 92) {
            int fault = index(9);
            both("reset " + fault, x -> x.reset(fault), m -> m.reset(fault));
        } else {
            disturb();
        }
    }

    private void tick() {
        int n = any(10) == 0 ? number(1, 100) : 1 + any(9);
        both("tick " + n, x -> x.tick(n), m -> m.tick(n));
        if (any(4) == 0) {
            askAll();
        }
    }

    private void tellReplies() {
        if (any(6) == 0) {
            move();
        }
        int times = any(5) == 0 ? 9 : 1;
        for (int i = 0; i < times; i++) {
            for (int chip = 0; chip < model.chips; chip++) {
                tellReply(any(40) == 0 ? index(model.chips) : chip);
            }
            if (times > 1 && any(3) == 0) {
                tellCurrent();
            }
        }
    }

    private void move() {
        int base = 2900 + any(1400);
        int spread = any(3) == 0 ? 1 : 1 + any(40);
        for (int cell = 0; cell < 6; cell++) {
            boolean odd = any(calm ? 60 : 12) == 0;
            levels[cell] = odd ? EDGES[any(EDGES.length)] : base + any(spread);
        }
    }

    private void tellReply(int chip) {
        int status = any(calm ? 40 : 8) == 0 ? any(65536) : any(4) << 6;
        int[] told = levels.clone();
        if (any(3) == 0) {
            told[any(6)] += any(20) - 10;
        }
        for (int cell = 0; cell < 6; cell++) {
            told[cell] &= 0xFFFF;
        }
        long[] reply = Bench.reply(status, told);
        long a = any(25) == 0 ? reply[0] ^ 1L << any(64) : reply[0];
        long b = any(25) == 0 ? reply[1] ^ 1L << any(64) : reply[1];
        both("reply " + chip + " " + a + " " + b, x -> x.reply(chip, a, b), m -> m.reply(chip, a, b));
    }

    private double amount(int eighths) {
        return any(25) == 0 ? ODD[any(ODD.length)] : (any(2 * eighths + 1) - eighths) / 8.0;
    }

    private void tellCurrent() {
        int[] ranges = {3, 4, 5, 16, 80, 1300, 3000, 16000};
        int range = any(3) == 0 ? 3 : ranges[any(calm ? 5 : 8)];
        double amperes = any(8) == 0 ? 0 : amount(range);
        both("current " + amperes, x -> { x.current(amperes); return "void"; }, m -> { m.current(amperes); return "void"; });
    }

    private void tellInputs() {
        int dice = any(10);
        if (dice < 3) {
            tellCurrent();
        } else if (dice < 4) {
            int chip = index(model.chips);
            double degrees = any(3) > 0 ? 20 : amount(any(2) == 0 ? 560 : 1600);
            both("warm " + chip + " " + degrees, x -> { x.warm(chip, degrees); return "void"; },
                    m -> { m.warm(chip, degrees); return "void"; });
        } else if (dice < 6) {
            int sum = 0;
            for (int level : levels) {
                sum += model.chips * level;
            }
            int[] guesses = {0, sum * 19 / 20, sum * 19 / 20 + 1, sum / 2, sum / 2 + 1, sum, number(0, 1000000)};
            int volts = any(2) == 0 ? sum : guesses[any(7)];
            both("bus " + volts, x -> { x.bus(volts); return "void"; }, m -> { m.bus(volts); return "void"; });
        } else if (dice < 8) {
            boolean closed = any(4) > 0;
            both("want " + closed, x -> { x.want(closed); return "void"; }, m -> { m.want(closed); return "void"; });
        } else {
            long most = model.capacity / 1024;
            double q = any(20) == 0 ? ODD[any(ODD.length)] : any((int) most + 1) / 8.0 + (any(30) == 0 ? most / 8.0 : 0);
            double told = any(6) == 0 ? q % 64 : q;
            both("set " + told, x -> { x.set(told); return "void"; }, m -> { m.set(told); return "void"; });
        }
    }

    private void askAll() {
        both("time", x -> x.time(), m -> m.time());
        both("charge", x -> x.charge(), m -> m.charge());
        both("percent", x -> x.percent(), m -> m.percent());
        both("through", x -> x.through(), m -> m.through());
        both("allowed false", x -> x.allowed(false), m -> m.allowed(false));
        both("allowed true", x -> x.allowed(true), m -> m.allowed(true));
        both("faults", x -> x.faults(), m -> m.faults());
    }

    private void ask() {
        int dice = any(9);
        if (dice == 0) {
            askAll();
        } else if (dice == 1) {
            long a = random.nextLong();
            long b = random.nextLong();
            both("seal", x -> x.seal(a, b), m -> m.seal(a, b));
        } else if (dice <= 3) {
            int chip = index(model.chips);
            int cell = index(6);
            both("valid " + chip + " " + cell, x -> x.valid(chip, cell), m -> m.valid(chip, cell));
        } else if (dice <= 5) {
            int chip = index(model.chips);
            both("bleeding " + chip, x -> x.bleeding(chip), m -> m.bleeding(chip));
        } else if (dice == 6) {
            int cause = index(7);
            both("count " + cause, x -> x.count(cause), m -> m.count(cause));
        } else if (dice == 7) {
            int at = index(32 * model.blocks);
            both("journal " + at, x -> x.journal(at), m -> m.journal(at));
        } else {
            both("off", x -> x.off(), m -> m.off());
            both("chips", x -> x.chips(), m -> m.chips);
        }
    }

    private void disturb() {
        int dice = any(12);
        if (dice < 3) {
            int n = any(6) == 0 ? 32 : number(0, 32);
            both("cut " + n, x -> { x.cut(n); return "void"; }, m -> { m.cut(n); return "void"; });
        } else if (dice < 5) {
            both("power", x -> x.power(), m -> m.power());
        } else if (dice < 7) {
            int at = index(32 * model.blocks);
            int by = number(0, 255);
            spoil(at, by);
        } else if (dice == 7 && any(3) == 0) {
            forge();
        } else if (dice == 8) {
            readBlock(any(model.blocks));
        }
    }

    private void spoil(int at, int by) {
        both("spoil " + at + " " + by, x -> { x.spoil(at, by); return "void"; }, m -> { m.spoil(at, by); return "void"; });
    }

    private void readBlock(int place) {
        for (int i = 0; i < 32; i++) {
            int at = 32 * place + i;
            both("journal " + at, x -> x.journal(at), m -> m.journal(at));
        }
    }

    private void forge() {
        int place = any(model.blocks);
        int[] numbers = {any(60), 999999980 + any(40), 1 + place, 1 + place + model.blocks * any(50), random.nextInt()};
        int[] times = {random.nextInt(), -any(60), Integer.MAX_VALUE - any(9), any(1000)};
        long[] parts = {random.nextLong(), (long) (random.nextDouble() * model.capacity), -1, model.capacity + 1};
        int faults = any(3) == 0 ? any(65536) : 0;
        byte[] block = Bench.block(numbers[any(5)], times[any(4)], parts[any(4)], faults, any(6));
        for (int i = 0; i < 32; i++) {
            int by = model.journal[32 * place + i] ^ block[i] & 0xFF;
            if (by != 0) {
                spoil(32 * place + i, by);
            }
        }
        both("power", x -> x.power(), m -> m.power());
        askAll();
    }
}
