/** Promises 7, 8 and 10: how the contactors close and open. */
public final class ContactorsTest {
    public static void main(String[] args) {
        closing();
        prechargeBounds();
        prechargeFails();
        prechargeInTheLastTick();
        openingWhenNotWanted();
        openingByFaults();
        weldedContacts();
        closingAgain();
        Expect.end();
    }

    private static void states(String what, CellKeeper x, int... due) {
        for (int i = 0; i < due.length; i++) {
            Expect.same(what + ", tick " + (i + 1), x.tick(1), due[i]);
        }
    }

    private static CellKeeper ready() {
        CellKeeper x = new CellKeeper(1, 2, 100, 1, 50);
        x.set(5000);
        Bench.level(x, 3700);
        return x;
    }

    private static void closing() {
        CellKeeper x = ready();
        states("not wanted", x, 0, 0);
        x.want(true);
        x.bus(22200);
        states("wanted", x, 1, 1, 2, 3, 3, 3);
    }

    private static void prechargeBounds() {
        CellKeeper x = ready();
        x.want(true);
        x.bus(21089);
        states("below 95 parts of 100", x, 1, 1, 2, 2, 2);
        x.bus(21090);
        states("95 parts of 100", x, 3);

        CellKeeper y = ready();
        y.want(true);
        y.bus(1000000);
        Bench.tell(y, 0, 1, 3700, 3700, 3700, 3700, 3700, 3700);
        states("a cell that is not valid", y, 1, 1, 2, 2, 2);
        Bench.level(y, 3700);
        states("all cells are valid", y, 3);
        Bench.tell(y, 0, 1, 3700, 3700, 3700, 3700, 3700, 3700);
        states("fault 1 is not serious", y, 3, 3);
    }

    private static void prechargeFails() {
        CellKeeper x = ready();
        x.want(true);
        Expect.same("precharge", Bench.run(x, 3700, 3), 2);
        Expect.same("29 ticks", Bench.run(x, 3700, 29), 2);
        Expect.same("no fault yet", x.faults(), 0);
        Expect.same("30 ticks", Bench.run(x, 3700, 1), 4);
        Expect.same("fault 7", x.faults(), 128);
        Bench.level(x, 3700);
        states("opening", x, 4, 4, 0, 0, 0);
        Expect.same("no fault 8", x.faults(), 128);
        x.reset(7);
        states("wanted still", x, 1, 1, 2);
    }

    private static void prechargeInTheLastTick() {
        CellKeeper x = ready();
        x.want(true);
        Bench.run(x, 3700, 32);
        x.bus(22200);
        Expect.same("the thirtieth tick", Bench.run(x, 3700, 1), 3);
        Expect.same("no fault", x.faults(), 0);

        CellKeeper y = ready();
        y.want(true);
        Bench.run(y, 3700, 32);
        y.want(false);
        Expect.same("not wanted goes before", Bench.run(y, 3700, 1), 4);
        Expect.same("no fault", y.faults(), 0);
    }

    private static void openingWhenNotWanted() {
        for (int before = 1; before <= 4; before++) {
            CellKeeper x = ready();
            x.want(true);
            x.bus(22200);
            x.tick(before);
            x.want(false);
            x.bus(0);
            states("not wanted behind " + before, x, 4, 4, 4, 0, 0);
            Expect.same("no fault", x.faults(), 0);
        }
    }

    private static void openingByFaults() {
        int[][] replies = {{4300, 4}, {2400, 8}};
        for (int[] row : replies) {
            CellKeeper x = Bench.closed(2);
            Bench.tell(x, 0, 0, row[0], 3700, 3700, 3700, 3700, 3700);
            states("one of two", x, 3);
            states("a cell of " + row[0], x, 4);
            Expect.same("the fault", x.faults(), row[1]);
        }
        CellKeeper stale = Bench.closed(1);
        Expect.same("ten ticks", stale.tick(6), 3);
        states("a stale chip", stale, 4);

        CellKeeper hot = Bench.closed(1);
        hot.warm(0, 60.125);
        states("too hot", hot, 4);

        CellKeeper cold = Bench.closed(1);
        cold.warm(0, -30.125);
        states("too cold is not serious", cold, 3, 3);
        Expect.same("but a fault", cold.faults(), 32);

        CellKeeper much = Bench.closed(1);
        much.current(311);
        states("too much current", much, 4);
        Expect.same("the fault", much.faults(), 64);
        much.current(0);
        Bench.level(much, 3700);
        much.bus(0);
        states("opening, though wanted", much, 4, 4, 0, 0);
        much.reset(6);
        states("wanted still", much, 1);
    }

    private static void weldedContacts() {
        int[][] rows = {{11100, 0}, {11101, 256}, {22200, 256}, {0, 0}};
        for (int[] row : rows) {
            CellKeeper x = Bench.closed(1);
            x.want(false);
            x.bus(22200);
            Bench.level(x, 3700);
            states("opening", x, 4, 4, 4);
            Expect.same("not before it is open", x.faults(), 0);
            x.bus(row[0]);
            states("open", x, 0);
            Expect.same("a bus of " + row[0], x.faults(), row[1]);
            x.want(true);
            states("fault 8 is serious", x, row[1] == 0 ? 1 : 0);
        }
        CellKeeper x = Bench.closed(1);
        x.want(false);
        x.bus(9250);
        x.tick(3);
        Bench.tell(x, 0, 1, 3700, 3700, 3700, 3700, 3700, 3700);
        x.tick(1);
        Expect.same("the sum is that of valid cells, 18500", x.faults(), 2);
        CellKeeper y = Bench.closed(1);
        y.want(false);
        y.bus(9251);
        y.tick(3);
        Bench.tell(y, 0, 1, 3700, 3700, 3700, 3700, 3700, 3700);
        y.tick(1);
        Expect.same("the sum is that of valid cells, 18500", y.faults(), 2 + 256);
    }

    private static void closingAgain() {
        CellKeeper x = Bench.closed(1);
        x.want(false);
        Bench.level(x, 3700);
        states("opening", x, 4);
        x.want(true);
        x.bus(0);
        states("it opens whole", x, 4, 4, 0, 1, 1, 2);
    }
}
