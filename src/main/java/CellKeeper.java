/**
 * The keeper of a vehicle's battery: it reads cells over a chain of chips, counts charge, tells
 * what currents are allowed, lets cells bleed, closes and opens the contactors, keeps faults, and
 * a journal that outlives a loss of power at any byte.
 */
public final class CellKeeper {
    private static final int CELLS = 6;
    private static final int LARGEST_CURRENT = 2000;
    private static final int LOWEST_DEGREES = -100;
    private static final int HIGHEST_DEGREES = 200;
    private static final int LARGEST_BUS = 1000000;
    private static final int LARGEST_TICKS = 100;

    private static final int REST_TICKS = 60;
    private static final int REST_WHOLE = 1024;
    private static final int[] REST_MILLIVOLTS = {3000, 3300, 3500, 3650, 3800, 4000, 4150};
    private static final int[] REST_PARTS = {0, 102, 256, 512, 717, 922, 1024};

    private static final int FULL_SHARE = 64;
    private static final int CHARGE_PARTS = 8192;

    private final Chip[] chain;
    private final int capacity;
    private final int every;
    private final Survey survey;
    private final Alarms alarms;
    private final Contactors contactors;
    private final Blocks blocks;

    private boolean dark;
    private int time;
    private double charge;
    private double through;
    private int rest;
    private double amperes;
    private int bus;
    private boolean wanted;
    private double mayGive;
    private double mayTake;

    public CellKeeper(int chips, int blocks, int capacity, int debounce, int every) {
        this.chain = new Chip[nearest(chips, 1, 4)];
        for (int i = 0; i < this.chain.length; i++) {
            this.chain[i] = new Chip();
        }
        this.capacity = nearest(capacity, 1, 4000) * 100;
        this.every = nearest(every, 1, 50);
        this.survey = new Survey();
        this.alarms = new Alarms(nearest(debounce, 1, 20));
        this.contactors = new Contactors();
        this.blocks = new Blocks(nearest(blocks, 2, 16));
        beginAnew();
    }

    public int chips() {
        return chain.length;
    }

    public int seal(long a, long b) {
        return Check.ofReply(a, b);
    }

    public boolean reply(int chip, long a, long b) throws IndexOutOfBoundsException, IllegalStateException {
        needChip(chip);
        needPower();
        if ((b & 0xFFFF) != Check.ofReply(a, b)) {
            return false;
        }
        chain[chip].take(a, b, amperes);
        return true;
    }

    public void current(double amperes) throws IllegalArgumentException, IllegalStateException {
        needAmount(amperes, -LARGEST_CURRENT, LARGEST_CURRENT);
        needPower();
        this.amperes = amperes;
    }

    public void warm(int chip, double degrees)
            throws IndexOutOfBoundsException, IllegalArgumentException, IllegalStateException {
        needChip(chip);
        needAmount(degrees, LOWEST_DEGREES, HIGHEST_DEGREES);
        needPower();
        chain[chip].degrees = degrees;
    }

    public void bus(int millivolts) throws IllegalArgumentException, IllegalStateException {
        needWhole(millivolts, 0, LARGEST_BUS);
        needPower();
        bus = millivolts;
    }

    public void want(boolean closed) throws IllegalStateException {
        needPower();
        wanted = closed;
    }

    public void set(double q) throws IllegalArgumentException, IllegalStateException {
        needAmount(q, 0, capacity);
        needPower();
        charge = q;
    }

    public int tick(int n) throws IllegalArgumentException, IllegalStateException {
        needWhole(n, 1, LARGEST_TICKS);
        needPower();
        for (int i = 0; i < n && !dark; i++) {
            passOneTick();
        }
        return contactors.state;
    }

    public boolean reset(int fault) throws IndexOutOfBoundsException, IllegalStateException {
        needIndex(fault, Alarms.FAULTS);
        needPower();
        return alarms.dismiss(fault, contactors.state == Contactors.OPEN);
    }

    public void cut(int n) throws IllegalArgumentException, IllegalStateException {
        needWhole(n, 0, Blocks.SIZE);
        needPower();
        blocks.limit = n;
    }

    public int power() {
        beginAnew();
        int place = blocks.newestPlace();
        if (place >= 0) {
            blocks.next = blocks.numberAt(place) + 1;
            time = blocks.timeAt(place);
            charge = chargeOfParts(blocks.partsAt(place));
            alarms.latched = blocks.faultsAt(place);
        }
        return time;
    }

    public boolean off() {
        return dark;
    }

    public int time() throws IllegalStateException {
        needPower();
        return time;
    }

    public double charge() throws IllegalStateException {
        needPower();
        return charge;
    }

    public int percent() throws IllegalStateException {
        needPower();
        return wholeCapacities(100 * charge);
    }

    public double through() throws IllegalStateException {
        needPower();
        return through;
    }

    public double allowed(boolean taking) throws IllegalStateException {
        needPower();
        return taking ? mayTake : mayGive;
    }

    public boolean valid(int chip, int cell) throws IndexOutOfBoundsException, IllegalStateException {
        needChip(chip);
        needIndex(cell, CELLS);
        needPower();
        return chain[chip].isValid(cell);
    }

    public int bleeding(int chip) throws IndexOutOfBoundsException, IllegalStateException {
        needChip(chip);
        needPower();
        return chain[chip].bleeds;
    }

    public int faults() throws IllegalStateException {
        needPower();
        return alarms.latched;
    }

    public int count(int cause) throws IndexOutOfBoundsException, IllegalStateException {
        needIndex(cause, Alarms.CAUSES);
        needPower();
        return alarms.counts[cause];
    }

    public int journal(int i) throws IndexOutOfBoundsException {
        needIndex(i, blocks.bytes.length);
        return blocks.bytes[i] & 0xFF;
    }

    public void spoil(int i, int by) throws IndexOutOfBoundsException, IllegalArgumentException {
        needIndex(i, blocks.bytes.length);
        needWhole(by, 0, 255);
        blocks.bytes[i] = (byte) (blocks.bytes[i] ^ by);
    }

    private static int nearest(int x, int least, int greatest) {
        return Math.max(least, Math.min(greatest, x));
    }

    private void needPower() {
        if (dark) {
            throw new IllegalStateException("the power is off");
        }
    }

    private void needChip(int chip) {
        needIndex(chip, chain.length);
    }

    private static void needIndex(int i, int length) {
        if (i < 0 || i >= length) {
            throw new IndexOutOfBoundsException("there is no such chip, cell, byte, fault or cause");
        }
    }

    private static void needWhole(int x, int least, int greatest) {
        if (x < least || x > greatest) {
            throw new IllegalArgumentException("the number is out of its range");
        }
    }

    private static void needAmount(double x, int least, int greatest) {
        // The range comes first: it keeps NaN, and what an int can't hold, away from the cast.
        boolean known = x >= least && x <= greatest && x * 8 == (int) (x * 8);
        if (!known) {
            throw new IllegalArgumentException("the amount is out of its range or no multiple of 0.125");
        }
    }

    /** All that a loss of power takes; the journal's bytes stay. */
    private void beginAnew() {
        dark = false;
        time = 0;
        charge = 0;
        through = 0;
        rest = 0;
        amperes = 0;
        bus = 0;
        wanted = false;
        mayGive = 0;
        mayTake = 0;
        for (Chip chip : chain) {
            chip.beginAnew();
        }
        alarms.beginAnew();
        contactors.beginAnew();
        blocks.beginAnew();
    }

    private double chargeOfParts(long parts) {
        // Held against the bounds as a long: a double can't tell all longs apart.
        long most = (long) capacity * CHARGE_PARTS;
        return (double) Math.max(0L, Math.min(most, parts)) / CHARGE_PARTS;
    }

    private void passOneTick() {
        time++;
        for (Chip chip : chain) {
            chip.age++;
        }
        // Nothing that a tick does later makes a cell VALID or not, so one look serves all its steps.
        survey.look(chain);
        moveCharge();
        tellAllowed();
        watchCauses();
        contactors.step(wanted, bus, survey, alarms);
        letBleed();
        if (alarms.fresh || time % every == 0) {
            writeBlock();
        }
    }

    private double currentSize() {
        return amperes < 0 ? -amperes : amperes;
    }

    private void moveCharge() {
        charge = charge - amperes;
        if (charge < 0) {
            charge = 0;
        } else if (charge > capacity) {
            charge = capacity;
        }
        through = through + currentSize();
        // Once is enough: no current is as large as this.
        if (through >= 10000) {
            through = through - 10000;
        }
        rest = currentSize() < 0.5 ? rest + 1 : 0;
        if (rest >= REST_TICKS && survey.allValid()) {
            int mean = survey.sum / (CELLS * Math.max(1, chain.length));
            charge = (double) capacity * partsAtRest(mean) / REST_WHOLE;
        }
    }

    private static int partsAtRest(int mean) {
        if (mean <= REST_MILLIVOLTS[0]) {
            return REST_PARTS[0];
        }
        for (int i = 1; i < REST_MILLIVOLTS.length; i++) {
            if (mean < REST_MILLIVOLTS[i]) {
                int below = REST_MILLIVOLTS[i - 1];
                int parts = REST_PARTS[i - 1];
                return parts + (REST_PARTS[i] - parts) * (mean - below) / (REST_MILLIVOLTS[i] - below);
            }
        }
        return REST_WHOLE;
    }

    private void tellAllowed() {
        int weather = Math.min(heatShare(survey.hottest), coldShare(survey.coldest));
        mayGive = 300.0 * Math.min(weather, chargeShare(charge)) / FULL_SHARE;
        mayTake = 150.0 * Math.min(weather, chargeShare(capacity - charge)) / FULL_SHARE;
    }

    private static int heatShare(double hottest) {
        if (hottest <= 45) {
            return FULL_SHARE;
        }
        return hottest >= 61 ? 0 : (int) (FULL_SHARE - 4 * (hottest - 45));
    }

    private static int coldShare(double coldest) {
        if (coldest >= 10) {
            return FULL_SHARE;
        }
        return coldest <= -22 ? 0 : (int) (2 * (coldest + 22));
    }

    private int chargeShare(double part) {
        return 8 * part >= capacity ? FULL_SHARE : wholeCapacities(512 * part);
    }

    private int wholeCapacities(double product) {
        int k = (int) (product / capacity);
        // The quotient may have been rounded up to a whole number.
        return (double) k * capacity > product ? k - 1 : k;
    }

    private void watchCauses() {
        alarms.fresh = false;
        alarms.watch(0, survey.staleChip);
        alarms.watch(1, survey.invalidCell);
        alarms.watch(2, survey.greatest > 4200);
        alarms.watch(3, survey.least < 2500);
        alarms.watch(4, survey.hottest > 60);
        alarms.watch(5, survey.coldest < -30);
        alarms.watch(6, amperes > mayGive + 10 || -amperes > mayTake + 10);
    }

    private void letBleed() {
        boolean settled = contactors.state == Contactors.OPEN || contactors.state == Contactors.CLOSED;
        boolean may = settled && !alarms.anySerious() && currentSize() < 2;
        for (Chip chip : chain) {
            chip.bleeds = may ? chip.cellsToBleed(survey.least, time) : 0;
        }
    }

    private void writeBlock() {
        long parts = (long) (charge * CHARGE_PARTS);
        boolean whole = blocks.write(time, parts, alarms.latched, contactors.state);
        dark = !whole;
    }

    /** The CHECK of rows of bytes. */
    private static final class Check {
        private static final int TOP_BIT = 14;
        private static final int MASK = 0x7FFF;
        private static final int POLYNOMIAL = 17817;

        /** The check of a reply's first fourteen bytes. */
        static int ofReply(long a, long b) {
            int check = 0;
            for (int shift = 56; shift >= 0; shift -= 8) {
                check = withByte(check, (int) (a >>> shift));
            }
            for (int shift = 56; shift >= 16; shift -= 8) {
                check = withByte(check, (int) (b >>> shift));
            }
            return check;
        }

        /** The check of a row's bytes from one on, so many as the row has at most. */
        static int ofRow(byte[] row, int from, int length) {
            int end = Math.min(row.length, from + length);
            int check = 0;
            for (int i = Math.max(0, from); i < end; i++) {
                check = withByte(check, row[i]);
            }
            return check;
        }

        private static int withByte(int check, int bits) {
            int now = check;
            for (int shift = 7; shift >= 0; shift--) {
                boolean differs = (now >>> TOP_BIT & 1) != (bits >>> shift & 1);
                now = now << 1 & MASK;
                if (differs) {
                    now = now ^ POLYNOMIAL;
                }
            }
            return now;
        }
    }

    /** A chip, as its used replies tell it. */
    private static final class Chip {
        private static final int STUCK_REPLIES = 8;
        private static final int STUCK_SWING = 8;
        private static final int OLDEST = 10;
        private static final int FIRST_DEGREES = 20;

        final int[] numbers = new int[CELLS];
        // How many used replies, up to the latest, had a cell's number: no older ones need be kept.
        final int[] alike = new int[CELLS];
        final double[] currents = new double[STUCK_REPLIES];
        int status;
        int used;
        int age;
        double degrees;
        int bleeds;

        void beginAnew() {
            status = 0;
            used = 0;
            age = 0;
            degrees = FIRST_DEGREES;
            bleeds = 0;
        }

        void take(long a, long b, double amperes) {
            for (int cell = 0; cell < CELLS; cell++) {
                int number = numberIn(a, b, cell);
                boolean same = used > 0 && number == numbers[cell];
                alike[cell] = same ? alike[cell] + 1 : 1;
                numbers[cell] = number;
            }
            status = (int) (b >>> 16 & 0xFFFF);
            currents[Math.floorMod(used, STUCK_REPLIES)] = amperes;
            used++;
            age = 0;
        }

        private static int numberIn(long a, long b, int cell) {
            long bytes = cell < 4 ? a >>> 48 - 16 * cell : b >>> 112 - 16 * cell;
            return (int) (bytes & 0xFFFF);
        }

        boolean isStale() {
            return used == 0 || age > OLDEST;
        }

        boolean isValid(int cell) {
            if (isStale() || numbers[cell] < 500 || numbers[cell] > 4999) {
                return false;
            }
            return (status >>> cell & 1) == 0 && !isStuck(cell);
        }

        private boolean isStuck(int cell) {
            return alike[cell] >= STUCK_REPLIES && currentsSwing();
        }

        private boolean currentsSwing() {
            double least = currents[0];
            double greatest = currents[0];
            for (double amperes : currents) {
                least = amperes < least ? amperes : least;
                greatest = amperes > greatest ? amperes : greatest;
            }
            return greatest - least > STUCK_SWING;
        }

        int cellsToBleed(int least, int time) {
            int cells = 0;
            for (int cell = 0; cell < CELLS; cell++) {
                int number = numbers[cell];
                boolean turn = (cell + time & 1) == 0;
                if (turn && isValid(cell) && number > 3300 && number - least > 8) {
                    cells = cells | 1 << cell;
                }
            }
            return cells;
        }
    }

    /** What one look at all chips shows. */
    private static final class Survey {
        boolean staleChip;
        boolean invalidCell;
        int sum;
        // Of the VALID cells; without one, a bound that no limit is beyond.
        int least;
        int greatest;
        double hottest;
        double coldest;

        void look(Chip[] chain) {
            staleChip = false;
            invalidCell = false;
            sum = 0;
            least = Integer.MAX_VALUE;
            greatest = 0;
            hottest = LOWEST_DEGREES;
            coldest = HIGHEST_DEGREES;
            for (Chip chip : chain) {
                hottest = chip.degrees > hottest ? chip.degrees : hottest;
                coldest = chip.degrees < coldest ? chip.degrees : coldest;
                if (chip.isStale()) {
                    staleChip = true;
                } else {
                    lookAtCells(chip);
                }
            }
        }

        private void lookAtCells(Chip chip) {
            for (int cell = 0; cell < CELLS; cell++) {
                if (chip.isValid(cell)) {
                    int number = chip.numbers[cell];
                    sum += number;
                    least = Math.min(least, number);
                    greatest = Math.max(greatest, number);
                } else {
                    invalidCell = true;
                }
            }
        }

        boolean allValid() {
            return !staleChip && !invalidCell;
        }
    }

    /** The causes' counts and the latched faults. */
    private static final class Alarms {
        static final int CAUSES = 7;
        static final int FAULTS = 9;
        static final int PRECHARGE_FAULT = 7;
        static final int WELDED_FAULT = 8;
        private static final int SERIOUS = 0x1FF & ~(1 << 1 | 1 << 5);
        private static final int LARGEST_COUNT = 255;

        final int debounce;
        final int[] counts = new int[CAUSES];
        int latched;
        boolean fresh;

        Alarms(int debounce) {
            this.debounce = debounce;
        }

        void beginAnew() {
            for (int cause = 0; cause < CAUSES; cause++) {
                counts[cause] = 0;
            }
            latched = 0;
            fresh = false;
        }

        void watch(int cause, boolean so) {
            counts[cause] = so ? Math.min(LARGEST_COUNT, counts[cause] + 1) : 0;
            if (counts[cause] >= debounce) {
                latch(cause);
            }
        }

        void latch(int fault) {
            if (!isLatched(fault)) {
                latched = latched | 1 << fault;
                fresh = true;
            }
        }

        private boolean isLatched(int fault) {
            return (latched >>> fault & 1) != 0;
        }

        boolean anySerious() {
            return (latched & SERIOUS) != 0;
        }

        boolean dismiss(int fault, boolean open) {
            boolean over = fault < CAUSES ? counts[fault] == 0 : open;
            if (!over || !isLatched(fault)) {
                return false;
            }
            latched = latched & ~(1 << fault);
            return true;
        }
    }

    /** The contactors' state. */
    private static final class Contactors {
        static final int OPEN = 0;
        static final int NEGATIVE = 1;
        static final int PRECHARGE = 2;
        static final int CLOSED = 3;
        static final int OPENING = 4;

        int state;
        // How many ticks began with this state.
        int ticks;

        void beginAnew() {
            state = OPEN;
            ticks = 0;
        }

        void step(boolean wanted, int bus, Survey cells, Alarms alarms) {
            ticks++;
            boolean wish = wanted && !alarms.anySerious();
            int next = state;
            if (state == OPEN) {
                next = wish ? NEGATIVE : OPEN;
            } else if (state == OPENING) {
                next = opened(bus, cells, alarms);
            } else if (!wish) {
                next = OPENING;
            } else if (state == NEGATIVE) {
                next = ticks >= 2 ? PRECHARGE : NEGATIVE;
            } else if (state == PRECHARGE) {
                next = precharged(bus, cells, alarms);
            }
            if (next != state) {
                state = next;
                ticks = 0;
            }
        }

        private int precharged(int bus, Survey cells, Alarms alarms) {
            if (cells.allValid() && 20 * bus >= 19 * cells.sum) {
                return CLOSED;
            }
            if (ticks < 30) {
                return PRECHARGE;
            }
            alarms.latch(Alarms.PRECHARGE_FAULT);
            return OPENING;
        }

        private int opened(int bus, Survey cells, Alarms alarms) {
            if (ticks < 3) {
                return OPENING;
            }
            if (2 * bus > cells.sum) {
                alarms.latch(Alarms.WELDED_FAULT);
            }
            return OPEN;
        }
    }

    /** The journal: its bytes, and what the next block will be. */
    private static final class Blocks {
        static final int SIZE = 32;
        private static final int NUMBER_AT = 0;
        private static final int TIME_AT = 4;
        private static final int PARTS_AT = 8;
        private static final int FAULTS_AT = 16;
        private static final int STATE_AT = 18;
        private static final int CHECK_AT = 30;
        private static final int LARGEST_NUMBER = 1000000000;
        private static final int KNOWN_FAULTS = 0x1FF;

        final int places;
        final byte[] bytes;
        final byte[] draft = new byte[SIZE];
        int next;
        // So many bytes of the next block are written; SIZE if no cut is set.
        int limit;

        Blocks(int places) {
            this.places = places;
            this.bytes = new byte[places * SIZE];
        }

        void beginAnew() {
            next = 1;
            limit = SIZE;
        }

        /** Writes a block, or as much of it as a cut leaves: whether it is whole. */
        boolean write(int time, long parts, int faults, int state) {
            lay(NUMBER_AT, 4, next);
            lay(TIME_AT, 4, time);
            lay(PARTS_AT, 8, parts);
            lay(FAULTS_AT, 2, faults);
            lay(STATE_AT, 2, state);
            lay(CHECK_AT, 2, Check.ofRow(draft, 0, CHECK_AT));
            int start = placeOf(next) * SIZE;
            for (int i = 0; i < limit; i++) {
                bytes[start + i] = draft[i];
            }
            next++;
            return limit == SIZE;
        }

        private int placeOf(int number) {
            return Math.floorMod(number - 1, places);
        }

        private void lay(int at, int length, long value) {
            for (int i = 0; i < length; i++) {
                draft[at + i] = (byte) (value >>> 8 * i);
            }
        }

        private long fetch(int at, int length) {
            long value = 0;
            for (int i = 0; i < length; i++) {
                value = value | (bytes[at + i] & 0xFFL) << 8 * i;
            }
            return value;
        }

        /** The place of the block that power goes on from, or -1 without one. */
        int newestPlace() {
            int newest = -1;
            for (int place = 0; place < places; place++) {
                if (isGood(place) && (newest < 0 || numberAt(place) > numberAt(newest))) {
                    newest = place;
                }
            }
            return newest;
        }

        private boolean isGood(int place) {
            int start = place * SIZE;
            int number = numberAt(place);
            return number >= 1 && number <= LARGEST_NUMBER && placeOf(number) == place
                    && fetch(start + CHECK_AT, 2) == Check.ofRow(bytes, start, CHECK_AT);
        }

        int numberAt(int place) {
            return (int) fetch(place * SIZE + NUMBER_AT, 4);
        }

        int timeAt(int place) {
            return (int) fetch(place * SIZE + TIME_AT, 4);
        }

        long partsAt(int place) {
            return fetch(place * SIZE + PARTS_AT, 8);
        }

        int faultsAt(int place) {
            return (int) fetch(place * SIZE + FAULTS_AT, 2) & KNOWN_FAULTS;
        }
    }
}
