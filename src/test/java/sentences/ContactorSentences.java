/** Terms: the contactors of a tick (5), and the cells that bleed (6). */
final class ContactorSentences {
    private ContactorSentences() {
    }

    static void tell() {
        ticksOfAState();
        toOpening();
        openBecomesNegative();
        negativeBecomesPrecharge();
        prechargeBecomesClosed();
        prechargeFails();
        closedStays();
        openingBecomesOpen();
        busBehindOpening();
        oneStepATick();
        whenCellsBleed();
        whichCellsBleed();
        turns();
        elseNone();
    }

    private static void states(String what, CellKeeper x, int... due) {
        for (int i = 0; i < due.length; i++) {
            Expect.same(what + ", tick " + (i + 1), x.tick(1), due[i]);
        }
    }

    private static CellKeeper wanted(int bus) {
        CellKeeper x = Bench.half(1);
        x.want(true);
        x.bus(bus);
        return x;
    }

    private static void ticksOfAState() {
        Sentence.of("Terms", "5 THE CONTACTORS: a STATE, and how many ticks it has been (with this one; it begins anew with a new state).");
        CellKeeper x = wanted(22200);
        states("closing", x, 1, 1, 2, 3);
        Bench.level(x, 3700);
        x.tick(5);
        x.want(false);
        x.bus(0);
        states("opening is counted anew", x, 4, 4, 4, 0);
        x.want(true);
        Bench.level(x, 3700);
        states("negative is counted anew", x, 1, 1, 2);
        Expect.same("precharge is counted anew", Bench.run(x, 3700, 29), 2);
        Expect.same("precharge is counted anew", Bench.run(x, 3700, 1), 4);
    }

    private static void toOpening() {
        Sentence.of("Terms", "To OPENING (4) it goes from 1, 2, 3, if it is not WANTED or a SERIOUS fault is LATCHED.");
        int[] begun = {0, 1, 1, 2, 3};
        for (int ticks = 1; ticks <= 4; ticks++) {
            CellKeeper x = wanted(22200);
            Expect.same("begun", x.tick(ticks), begun[ticks]);
            x.want(false);
            states("not wanted in state " + begun[ticks], x, 4);

            CellKeeper y = hotSoon(ticks);
            Expect.same("begun", y.tick(ticks), begun[ticks]);
            Expect.same("no fault yet", y.faults(), 0);
            states("a serious fault in state " + begun[ticks], y, 4);
            Expect.same("the fault", y.faults(), 16);
        }
        CellKeeper light = new CellKeeper(1, 2, 10, 2, 50);
        light.set(500);
        Bench.level(light, 3700);
        light.want(true);
        light.warm(0, -31);
        light.bus(22200);
        states("fault 5 is not serious", light, 1, 1, 2, 3, 3);
        Expect.same("fault 5", light.faults(), 32);
    }

    /** A keeper, wanted, whose fault 4 comes behind so many ticks and one. */
    private static CellKeeper hotSoon(int ticks) {
        CellKeeper x = new CellKeeper(1, 2, 10, ticks + 1, 50);
        x.set(500);
        Bench.level(x, 3700);
        x.want(true);
        x.bus(22200);
        x.warm(0, 61);
        return x;
    }

    private static void openBecomesNegative() {
        Sentence.of("Terms", "OPEN (0): else, if WANTED and no SERIOUS fault is LATCHED, it becomes 1.");
        CellKeeper x = Bench.half(1);
        states("not wanted", x, 0, 0);
        x.want(true);
        states("wanted", x, 1);
        CellKeeper faulty = Bench.withFaults(1 << 4);
        faulty.want(true);
        states("a serious fault", faulty, 0, 0);
        Expect.same("it goes", faulty.reset(4), true);
        states("no more", faulty, 1);
        CellKeeper now = new CellKeeper(1, 2, 10, 1, 50);
        now.set(500);
        now.want(true);
        states("a serious fault of this tick", now, 0);
    }

    private static void negativeBecomesPrecharge() {
        Sentence.of("Terms", "NEGATIVE (1): behind two ticks it becomes 2.");
        states("two ticks begin with 1", wanted(1000000), 1, 1, 2);
    }

    private static void prechargeBecomesClosed() {
        Sentence.of("Terms", "PRECHARGE (2): if all cells are VALID and 20 times BUS is at least 19 times SUM, it becomes 3;");
        CellKeeper x = wanted(21089);
        states("just below", x, 1, 1, 2, 2);
        x.bus(21090);
        states("just so much", x, 3);
        CellKeeper more = wanted(21091);
        states("just above", more, 1, 1, 2, 3);

        CellKeeper marked = wanted(1000000);
        marked.tick(3);
        Bench.tell(marked, 0, 32, 3700, 3700, 3700, 3700, 3700, 3700);
        states("a cell is not valid", marked, 2, 2);
        Bench.level(marked, 3700);
        states("all are", marked, 3);

        CellKeeper stale = Bench.half(2);
        stale.want(true);
        stale.bus(1000000);
        stale.tick(3);
        stale.bus(0);
        Bench.tell(stale, 0, 0, 3700, 3700, 3700, 3700, 3700, 3700);
        stale.tick(7);
        stale.bus(1000000);
        states("a chip is stale", stale, 2);
        Bench.level(stale, 3700);
        states("none is", stale, 3);
    }

    private static void prechargeFails() {
        Sentence.of("Terms", "else behind thirty ticks fault 7 is LATCHED and it becomes 4.");
        CellKeeper x = wanted(0);
        Bench.run(x, 3700, 32);
        Expect.same("29 ticks", x.faults(), 0);
        Expect.same("30 ticks", Bench.run(x, 3700, 1), 4);
        Expect.same("30 ticks", x.faults(), 128);

        CellKeeper late = wanted(0);
        Expect.same("29 ticks", Bench.run(late, 3700, 32), 2);
        late.bus(21090);
        Expect.same("closed in the thirtieth", Bench.run(late, 3700, 1), 3);
        Expect.same("no fault", late.faults(), 0);

        CellKeeper unwanted = wanted(0);
        Bench.run(unwanted, 3700, 32);
        unwanted.want(false);
        Expect.same("not wanted in the thirtieth", Bench.run(unwanted, 3700, 1), 4);
        Expect.same("no fault", unwanted.faults(), 0);
    }

    private static void closedStays() {
        Sentence.of("Terms", "CLOSED (3).");
        CellKeeper x = wanted(22200);
        x.tick(4);
        x.bus(0);
        Expect.same("without a bus", Bench.run(x, 3700, 100), 3);
        Bench.tell(x, 0, 63, 0, 0, 0, 0, 0, 0);
        states("without a valid cell", x, 3, 3);
    }

    private static void openingBecomesOpen() {
        Sentence.of("Terms", "OPENING (4): behind three ticks it becomes 0,");
        CellKeeper x = wanted(0);
        x.tick(1);
        x.want(false);
        states("three ticks begin with 4", x, 4, 4, 4, 0, 0);
        CellKeeper again = wanted(0);
        again.tick(1);
        again.want(false);
        again.tick(1);
        again.want(true);
        states("wanted again", again, 4, 4, 0, 1);
    }

    private static void busBehindOpening() {
        Sentence.of("Terms", "and if twice BUS is more than SUM, fault 8 is LATCHED.");
        int[][] rows = {{11099, 0}, {11100, 0}, {11101, 256}, {1000000, 256}, {0, 0}};
        for (int[] row : rows) {
            CellKeeper x = wanted(0);
            x.tick(1);
            x.want(false);
            x.bus(1000000);
            states("opening", x, 4, 4, 4);
            Expect.same("not before it is open", x.faults(), 0);
            x.bus(row[0]);
            states("open", x, 0);
            Expect.same("a bus of " + row[0], x.faults(), row[1]);
            x.bus(1000000);
            states("open", x, 0);
            Expect.same("not behind that", x.faults(), row[1]);
        }
        for (int bus = 0; bus <= 1; bus++) {
            CellKeeper none = new CellKeeper(1, 2, 10, 20, 50);
            none.want(true);
            none.tick(1);
            none.want(false);
            none.bus(bus);
            states("no valid cell, a SUM of 0", none, 4, 4, 4, 0);
            Expect.same("a bus of " + bus, none.faults(), bus == 0 ? 0 : 256);
        }
    }

    private static void oneStepATick() {
        Sentence.of("Terms", "(One step a tick. Behind n ticks: the tick is the n-th one that began with the state.)");
        CellKeeper x = wanted(1000000);
        states("closing", x, 1, 1, 2, 3);
        x.want(false);
        x.bus(0);
        states("opening", x, 4, 4, 4, 0);
        x.want(true);
        x.bus(1000000);
        states("closing again", x, 1, 1);
        CellKeeper all = wanted(1000000);
        Expect.same("many ticks in one call", all.tick(4), 3);
    }

    /** Even cells are higher than odd ones, but for the last. */
    private static CellKeeper uneven() {
        CellKeeper x = Bench.half(1);
        Bench.tell(x, 0, 0, 3700, 3600, 3700, 3600, 3700, 3700);
        return x;
    }

    private static void whenCellsBleed() {
        Sentence.of("Terms", "6 BLEEDING: if the state is 0 or 3, no SERIOUS fault is LATCHED and the size of the current is below 2,");
        double[][] currents = {{0, 1}, {1.875, 1}, {-1.875, 1}, {2, 0}, {-2, 0}, {2.125, 0}, {-300, 0}};
        for (double[] row : currents) {
            CellKeeper x = uneven();
            x.current(row[0]);
            x.tick(1);
            Expect.same("a current of " + row[0], x.bleeding(0), row[1] == 1 ? 0b100000 : 0);
        }
        for (int fault = 0; fault < 9; fault++) {
            CellKeeper x = Bench.withFaults(1 << fault);
            Bench.tell(x, 0, 0, 3700, 3600, 3700, 3600, 3700, 3700);
            x.tick(1);
            Expect.same("fault " + fault, x.bleeding(0), fault == 1 || fault == 5 ? 0b100000 : 0);
        }
        int[] states = {1, 1, 2, 3, 3, 4, 4, 4, 0};
        CellKeeper x = uneven();
        x.want(true);
        x.bus(22000);
        for (int tick = 1; tick <= 9; tick++) {
            x.want(tick < 6);
            x.bus(tick < 6 ? 22000 : 0);
            Expect.same("state", x.tick(1), states[tick - 1]);
            boolean bleeds = states[tick - 1] == 0 || states[tick - 1] == 3;
            Expect.same("state " + states[tick - 1], x.bleeding(0), !bleeds ? 0 : tick % 2 == 0 ? 0b010101 : 0b100000);
        }
    }

    private static void whichCellsBleed() {
        Sentence.of("Terms", "cells that are VALID, above 3300 and more than 8 above the least number of all VALID cells (of all chips),");
        CellKeeper x = Bench.half(1);
        Bench.tell(x, 0, 0, 3200, 3299, 3200, 3300, 3200, 3301);
        x.tick(1);
        Expect.same("above 3300", x.bleeding(0), 0b100000);
        Bench.tell(x, 0, 0, 3507, 3500, 3508, 3500, 3509, 3500);
        x.tick(1);
        Expect.same("more than 8 above", x.bleeding(0), 0b010000);
        Bench.tell(x, 0, 0b000010, 3500, 3600, 3500, 3600, 3500, 5000);
        x.tick(1);
        Expect.same("valid", x.bleeding(0), 0b001000);

        CellKeeper all = Bench.half(4);
        Bench.tell(all, 3, 0, 3700, 3700, 3700, 3700, 3691, 3700);
        all.tick(1);
        for (int chip = 0; chip < 4; chip++) {
            Expect.same("the least is 9 below, in the last chip", all.bleeding(chip), 0b101010);
        }
        Bench.tell(all, 3, 0, 3700, 3700, 3700, 3700, 3692, 3700);
        all.tick(1);
        for (int chip = 0; chip < 4; chip++) {
            Expect.same("the least is 8 below", all.bleeding(chip), 0);
        }
        Bench.tell(all, 3, 0b010000, 3700, 3700, 3700, 3700, 3600, 3700);
        all.tick(1);
        Expect.same("a number that is not valid is not the least", all.bleeding(0), 0);
    }

    private static void turns() {
        Sentence.of("Terms", "and whose number in their chip and TIME together are even;");
        int[] times = {0, 1, -3, -2, Integer.MAX_VALUE - 1, Integer.MAX_VALUE};
        for (int time : times) {
            CellKeeper x = new CellKeeper(2, 2, 10, 20, 50);
            Bench.forge(x, 0, Bench.block(1, time, 500 * 8192, 0, 0));
            x.power();
            Bench.level(x, 3700);
            Bench.tell(x, 0, 0, 3600, 3700, 3700, 3700, 3700, 3700);
            x.tick(1);
            boolean even = (time & 1) == 1;
            Expect.same("behind TIME " + time, x.bleeding(0), even ? 0b010100 : 0b101010);
            Expect.same("behind TIME " + time, x.bleeding(1), even ? 0b010101 : 0b101010);
            x.tick(1);
            Expect.same("a tick later", x.bleeding(1), even ? 0b101010 : 0b010101);
        }
    }

    private static void elseNone() {
        Sentence.of("Terms", "else none.");
        CellKeeper x = uneven();
        x.tick(1);
        Expect.same("one", x.bleeding(0), 0b100000);
        x.current(2);
        x.tick(2);
        Expect.same("none by the current", x.bleeding(0), 0);
        x.current(0);
        x.tick(2);
        Expect.same("one", x.bleeding(0), 0b100000);
        x.tick(6);
        Expect.same("none of a stale chip", x.bleeding(0), 0);
        CellKeeper never = new CellKeeper(1, 2, 10, 20, 50);
        never.tick(1);
        Expect.same("none without a reply", never.bleeding(0), 0);
    }
}
