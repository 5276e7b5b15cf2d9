/** Promises 5 to 10 and 12: what current, warm, bus, want, set, tick and cut take and refuse. */
public final class InputsTest {
    private static final double[] NO_AMOUNTS = {Double.NaN, Double.POSITIVE_INFINITY, Double.NEGATIVE_INFINITY,
        0.1, 0.0625, -0.0625, 12.3, 0.12500000000000003, Double.MIN_VALUE, -Double.MIN_VALUE, Double.MAX_VALUE,
        4294967296.0, -4294967296.0, 1e300};

    public static void main(String[] args) {
        currents();
        temperatures();
        buses();
        charges();
        ticks();
        cuts();
        withoutPower();
        Expect.end();
    }

    private static void currents() {
        CellKeeper x = new CellKeeper(1, 2, 4000, 20, 50);
        x.set(200000);
        for (double good : new double[] {2000, -2000, 0.125, -0.125, 0, -0.0, 1999.875}) {
            double before = x.charge();
            x.current(good);
            x.tick(1);
            Expect.near("charge behind " + good, x.charge(), before - good);
        }
        x.current(5);
        for (double bad : NO_AMOUNTS) {
            Expect.argument("current " + bad, () -> x.current(bad));
        }
        Expect.argument("current", () -> x.current(2000.125));
        Expect.argument("current", () -> x.current(-2000.125));
        double before = x.charge();
        x.tick(1);
        Expect.near("a refused current changes nothing", x.charge(), before - 5);
    }

    private static void temperatures() {
        CellKeeper x = new CellKeeper(2, 2, 1, 20, 50);
        x.set(50);
        x.warm(0, -100);
        x.warm(1, 200);
        x.warm(0, 20);
        x.warm(1, 50.125);
        for (double bad : NO_AMOUNTS) {
            Expect.argument("warm " + bad, () -> x.warm(1, bad));
        }
        Expect.argument("warm", () -> x.warm(1, 200.125));
        Expect.argument("warm", () -> x.warm(0, -100.125));
        for (int chip : new int[] {-1, 2, Integer.MAX_VALUE, Integer.MIN_VALUE}) {
            Expect.index("warm", () -> x.warm(chip, 20));
            Expect.index("warm with both wrong", () -> x.warm(chip, Double.NaN));
        }
        x.tick(1);
        Expect.near("a refused temperature changes nothing", x.allowed(false), 300 * 43 / 64.0);
    }

    private static void buses() {
        CellKeeper x = new CellKeeper(1, 2, 1, 20, 50);
        x.set(50);
        x.bus(0);
        x.bus(1000000);
        for (int bad : new int[] {-1, 1000001, Integer.MAX_VALUE, Integer.MIN_VALUE}) {
            Expect.argument("bus", () -> x.bus(bad));
        }
        Bench.level(x, 3700);
        x.want(true);
        Expect.same("a refused bus changes nothing", x.tick(4), 3);
        x.want(false);
        Expect.same("not wanted", x.tick(1), 4);
    }

    private static void charges() {
        CellKeeper x = new CellKeeper(1, 2, 10, 20, 50);
        for (double good : new double[] {1000, 0, 0.125, 999.875, 512.5}) {
            x.set(good);
            Expect.near("charge", x.charge(), good);
        }
        for (double bad : NO_AMOUNTS) {
            Expect.argument("set " + bad, () -> x.set(bad));
        }
        Expect.argument("set", () -> x.set(1000.125));
        Expect.argument("set", () -> x.set(-0.125));
        Expect.near("a refused charge changes nothing", x.charge(), 512.5);
    }

    private static void ticks() {
        CellKeeper x = new CellKeeper(1, 2, 10, 20, 50);
        for (int bad : new int[] {0, -1, 101, Integer.MAX_VALUE, Integer.MIN_VALUE}) {
            Expect.argument("tick", () -> x.tick(bad));
        }
        Expect.same("refused ticks change nothing", x.time(), 0);
        x.tick(1);
        Expect.same("time", x.time(), 1);
        x.tick(100);
        Expect.same("time", x.time(), 101);
    }

    private static void cuts() {
        CellKeeper x = new CellKeeper(1, 2, 10, 20, 1);
        for (int bad : new int[] {-1, 33, Integer.MAX_VALUE, Integer.MIN_VALUE}) {
            Expect.argument("cut", () -> x.cut(bad));
        }
        x.tick(1);
        Expect.same("refused cuts change nothing", x.off(), false);
    }

    private static void withoutPower() {
        CellKeeper x = Bench.dark();
        Expect.state("current", () -> x.current(1));
        Expect.argument("current", () -> x.current(Double.NaN));
        Expect.state("warm", () -> x.warm(1, 1));
        Expect.argument("warm", () -> x.warm(1, 0.1));
        Expect.index("warm", () -> x.warm(2, 0.1));
        Expect.state("bus", () -> x.bus(1));
        Expect.argument("bus", () -> x.bus(-1));
        Expect.state("want", () -> x.want(true));
        Expect.state("set", () -> x.set(1));
        Expect.argument("set", () -> x.set(-1));
        Expect.state("tick", () -> x.tick(1));
        Expect.argument("tick", () -> x.tick(0));
        Expect.state("cut", () -> x.cut(1));
        Expect.argument("cut", () -> x.cut(33));
    }
}
