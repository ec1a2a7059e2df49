import java.util.Arrays;

/**
 * A wash house, minute by minute. ../shared/DOC.md promises what each call does; the words in
 * capitals there are the names here.
 */
public final class WashHouse {
    public static final int UNKNOWN = -1, OUTSIDE = -2, STATE = -3, FULL = -4, NONE = -5;

    // Findings, by their numbers.
    private static final int NO_MACHINE = 1, NO_LOAD = 2, NO_PROGRAM = 3, BEHIND_THE_END = 4,
            NOT_THAT_MACHINE = 5, NOUGHT = 6, BUSY = 7, MONEY = 8, CHANGE = 9, MIX = 10, ROOM = 11,
            BOUND = 12, SIZE = 13;
    private static final int FINDINGS_FROM = -20;

    // How many there are at most.
    private static final int PLACES = 60, PROGRAMS = 40, TUBES = 12, MOST_LOADS = 500, COLOURS = 10,
            MOST_DRUMS = 6, MOST_INSIDE = 8, MOST_STEPS = 30, MOST_COINS = 1000, MOST_CHANGE = 500,
            MOST_ROOM = 20000, MOST_MONEY = 5000, MOST_BACK = 300;

    // Kinds of machines; the last two only begin bodies.
    private static final int WASHER = 0, SPINNER = 1, DRYER = 2, PRESS = 3, BANK = 4, MACHINE = 5,
            TURNS = 6;

    // Kinds of steps.
    private static final int FILL = 0, TURN = 1, WARM = 2, DRAIN = 3, REST = 4;

    // Wishes, by the numbers of their bodies.
    private static final int WATER = 0, HEAT = 1, POWER = 2, SPEED = 3, WEAR = 4;

    // Lamps.
    private static final int FREE = 1, GOES = 2, WAITS = 3, BROKEN = 4;

    // Where a load is, if not at a place.
    private static final int WAITING = -1, FETCHED = -2;

    // A step is one number, so that a run's own copy of its program stays small.
    private static final int STEP_KIND = 1000;

    // The cells of a place. KIND is one more than the kind, so that a cleared place has no machine.
    private static final int KIND = 0, PRICE = 1, OPEN = 2, LAMP = 3, STANDS = 4, PAID = 5,
            WAITED = 6, BREAK_AT = 7, DRUMS = 8, LOADS = 9, STEPS = 10, STEP_AT = 11,
            STEP_LEFT = 12, ROOMS = 13, INSIDE = ROOMS + MOST_DRUMS, BOOK = INSIDE + MOST_INSIDE,
            BOOKS = 9, CREDIT = BOOK + BOOKS, RUN_STEPS = CREDIT + TUBES,
            PLACE_CELLS = RUN_STEPS + MOST_STEPS;

    // Pages of a place's book.
    private static final int WENT = BOOK, LINGERED = BOOK + 1, TOOK = BOOK + 2, WORN = BOOK + 5,
            BEGUN = BOOK + 6, CUT_SHORT = BOOK + 7, EARNED = BOOK + 8;

    // The cells of a load.
    private static final int WEIGHT = 1, COLOUR = 2, WHERE = 3, TICKET = 4, LOAD_CELLS = 5;

    // Where the cells of all of these begin. A program's first one is one more than its length.
    private static final int PROGRAM_CELLS = 1 + MOST_STEPS,
            ALL_PROGRAMS = PLACES * PLACE_CELLS,
            ALL_LOADS = ALL_PROGRAMS + PROGRAMS * PROGRAM_CELLS,
            ALL_VALUES = ALL_LOADS + MOST_LOADS * LOAD_CELLS,
            ALL_COINS = ALL_VALUES + TUBES,
            ALL_BARRED = ALL_COINS + TUBES,
            ALL_BOUNDS = ALL_BARRED + COLOURS * COLOURS,
            ALL_USED = ALL_BOUNDS + 3,
            LOAD_COUNT = ALL_USED + 3, RUN_BEGUN = LOAD_COUNT + 1, PUT_IN = LOAD_COUNT + 2,
            GIVEN_BACK = LOAD_COUNT + 3, PAID_EVER = LOAD_COUNT + 4, WATER_OFF = LOAD_COUNT + 5,
            ALL_CELLS = LOAD_COUNT + 6;

    private final Cells cells = new Cells();
    private final Till till = new Till(cells);
    private final Trace begun = new Trace();
    private final Machine[] kinds = {new Washer(begun), new Spinner(begun), new Dryer(begun),
        new Press(begun), new Bank(begun)};
    private final int[] entries = new int[PLACES];
    private final int[] leavings = new int[PLACES];
    private final int[] line = new int[PLACES];
    private final int[] weights = new int[PLACES];
    private final int[] asked = new int[3];
    private final int[] went = new int[3];
    private int tickets = 0;
    private int findings = 0;
    private int latestFinding = 0;

    public WashHouse() {
        for (int w = WATER; w <= POWER; w++) {
            cells.set(ALL_BOUNDS + w, 100);
        }
    }

    // ---- machines

    public int machine(int place, int kind, int room, int price) {
        if (!isPlace(place)) {
            return UNKNOWN;
        }
        int leastRoom = kind == BANK ? 0 : 1;
        if (!within(kind, WASHER, BANK) || !within(room, leastRoom, MOST_ROOM)
                || !within(price, 0, MOST_MONEY)) {
            return OUTSIDE;
        }
        if (hasMachine(place)) {
            return STATE;
        }
        write(place, KIND, kind + 1);
        write(place, PRICE, price);
        write(place, OPEN, 1);
        write(place, LAMP, FREE);
        write(place, ROOMS, room);
        write(place, DRUMS, kind == BANK && room > 0 ? 1 : 0);
        return 1;
    }

    public int drum(int place, int room) {
        if (!isPlace(place)) {
            return UNKNOWN;
        }
        if (!within(room, 1, MOST_ROOM)) {
            return OUTSIDE;
        }
        if (!hasMachine(place)) {
            return found(NO_MACHINE);
        }
        if (!isBank(place)) {
            return found(NOT_THAT_MACHINE);
        }
        if (read(place, LOADS) > 0 || hasRun(place)) {
            return found(BUSY);
        }
        int drums = read(place, DRUMS);
        if (drums >= MOST_DRUMS) {
            return FULL;
        }
        write(place, ROOMS + drums, room);
        write(place, DRUMS, drums + 1);
        return drums + 1;
    }

    public int remove(int place) {
        if (!isPlace(place)) {
            return UNKNOWN;
        }
        if (!hasMachine(place)) {
            return found(NO_MACHINE);
        }
        if (read(place, LOADS) > 0 || hasRun(place) || till.creditOf(place) > 0) {
            return found(BUSY);
        }
        int kind = read(place, KIND) - 1;
        for (int field = 0; field < PLACE_CELLS; field++) {
            write(place, field, 0);
        }
        return kind;
    }

    public int told(int place, int what) {
        if (!isPlace(place)) {
            return UNKNOWN;
        }
        if (!within(what, 0, 12)) {
            return OUTSIDE;
        }
        if (!hasMachine(place)) {
            return found(NO_MACHINE);
        }
        switch (what) {
            case 0: return read(place, KIND) - 1;
            case 1: return roomOf(place);
            case 2: return read(place, PRICE);
            case 3: return read(place, OPEN);
            case 4: return read(place, LAMP);
            case 5: return read(place, STANDS);
            case 6: return read(place, LOADS);
            case 7: return read(place, PAID);
            case 8: return read(place, DRUMS);
            case 9: return read(place, WAITED);
            case 10: return kindAt(place).fills() ? 1 : 0;
            case 11: return kindAt(place).turns() ? 1 : 0;
            default: return kindAt(place).warms() ? 1 : 0;
        }
    }

    public int wish(int place, int what, int step) {
        if (!isPlace(place)) {
            return UNKNOWN;
        }
        if (!isWish(what, step)) {
            return OUTSIDE;
        }
        if (!hasMachine(place)) {
            return found(NO_MACHINE);
        }
        Machine kind = kindAt(place);
        if (what >= SPEED && !kind.turns()) {
            return found(NOT_THAT_MACHINE);
        }
        int drums = read(place, DRUMS);
        switch (what) {
            case WATER: return kind.water(step, drums);
            case HEAT: return kind.heat(step, drums);
            case POWER: return kind.power(step, drums);
            case SPEED: return kind.speed();
            default: return kind.wear(step);
        }
    }

    public int trace(int i) {
        return begun.latest(i);
    }

    public int touches(int place, int what) {
        if (!isPlace(place)) {
            return UNKNOWN;
        }
        if (!within(what, 0, 1)) {
            return OUTSIDE;
        }
        return what == 0 ? entries[place] : leavings[place];
    }

    // ---- programs

    public int program(int p, int n) {
        if (!isProgram(p)) {
            return UNKNOWN;
        }
        if (n > MOST_STEPS) {
            return OUTSIDE;
        }
        if (n < 0) {
            return found(SIZE);
        }
        cells.set(programCell(p), n + 1);
        for (int i = 0; i < n; i++) {
            cells.set(stepCell(p, i), REST * STEP_KIND + 1);
        }
        return 1;
    }

    public int takeOut(int p) {
        if (!isProgram(p)) {
            return UNKNOWN;
        }
        if (!hasProgram(p)) {
            return 0;
        }
        cells.set(programCell(p), 0);
        return 1;
    }

    public int step(int p, int i, int kind, int minutes) {
        if (!isProgram(p)) {
            return UNKNOWN;
        }
        if (!within(kind, FILL, REST) || !within(minutes, 1, 200)) {
            return OUTSIDE;
        }
        if (!hasProgram(p)) {
            return found(NO_PROGRAM);
        }
        if (!within(i, 0, lengthOf(p) - 1)) {
            return found(BEHIND_THE_END);
        }
        cells.set(stepCell(p, i), kind * STEP_KIND + minutes);
        return 1;
    }

    public int minutes(int p) {
        if (!isProgram(p)) {
            return UNKNOWN;
        }
        if (!hasProgram(p)) {
            return found(NO_PROGRAM);
        }
        int sum = 0;
        int length = lengthOf(p);
        for (int i = 0; i < length; i++) {
            sum += minutesOf(cells.get(stepCell(p, i)));
        }
        return sum;
    }

    // ---- money

    public int tube(int k, int value, int n) {
        if (!isTube(k)) {
            return UNKNOWN;
        }
        if (!within(value, 1, MOST_MONEY) || !within(n, 0, MOST_COINS)) {
            return OUTSIDE;
        }
        if (till.anotherHas(k, value) || till.hasCredit()) {
            return STATE;
        }
        cells.set(ALL_VALUES + k, value);
        cells.set(ALL_COINS + k, n);
        return 1;
    }

    public int coin(int place, int k, int n) {
        if (!isPlace(place) || !isTube(k)) {
            return UNKNOWN;
        }
        if (!within(n, 1, 50)) {
            return OUTSIDE;
        }
        int value = cells.get(ALL_VALUES + k);
        if (value == 0) {
            return STATE;
        }
        if (!hasMachine(place)) {
            return found(NO_MACHINE);
        }
        int coins = cells.get(ALL_COINS + k) + n;
        if (coins > MOST_COINS) {
            return FULL;
        }
        cells.set(ALL_COINS + k, coins);
        grow(place, CREDIT + k, n);
        cells.add(PUT_IN, n * value);
        return till.creditOf(place);
    }

    public int pay(int place) {
        if (!isPlace(place)) {
            return UNKNOWN;
        }
        if (!hasMachine(place)) {
            return found(NO_MACHINE);
        }
        enter(place);
        int answer = payPrice(place);
        leave(place);
        return answer;
    }

    private int payPrice(int place) {
        if (read(place, PAID) == 1) {
            return STATE;
        }
        int price = read(place, PRICE);
        int change = till.creditOf(place) - price;
        if (change < 0) {
            return found(MONEY);
        }
        if (!till.findChange(place, change)) {
            till.giveBack(place);
            return found(CHANGE);
        }
        till.giveChange(place, change);
        write(place, PAID, 1);
        grow(place, EARNED, price);
        cells.add(PAID_EVER, price);
        return change;
    }

    public int refund(int place) {
        if (!isPlace(place)) {
            return UNKNOWN;
        }
        if (!hasMachine(place)) {
            return found(NO_MACHINE);
        }
        return till.giveBack(place);
    }

    public int given(int k) {
        return till.gaveLast(k);
    }

    public int coins(int k, int what) {
        if (!isTube(k)) {
            return UNKNOWN;
        }
        if (!within(what, 0, 1)) {
            return OUTSIDE;
        }
        return cells.get((what == 0 ? ALL_VALUES : ALL_COINS) + k);
    }

    public int credit(int place) {
        return isPlace(place) ? till.creditOf(place) : UNKNOWN;
    }

    // ---- loads

    public int load(int kind, int weight, int colour) {
        if (!within(kind, 0, 9) || !within(weight, 1, MOST_ROOM) || !isColour(colour)) {
            return OUTSIDE;
        }
        int load = cells.get(LOAD_COUNT);
        if (load >= MOST_LOADS) {
            return FULL;
        }
        tickets++;
        cells.set(loadCell(load, KIND), kind);
        cells.set(loadCell(load, WEIGHT), weight);
        cells.set(loadCell(load, COLOUR), colour);
        cells.set(loadCell(load, WHERE), WAITING);
        cells.set(loadCell(load, TICKET), tickets);
        cells.set(LOAD_COUNT, load + 1);
        return load;
    }

    public int mix(int a, int b, boolean may) {
        if (!isColour(a) || !isColour(b) || a == b) {
            return OUTSIDE;
        }
        int was = mayMix(a, b) ? 1 : 0;
        int barred = may ? 0 : 1;
        cells.set(barredCell(a, b), barred);
        cells.set(barredCell(b, a), barred);
        return was;
    }

    public int put(int place, int load) {
        if (!isPlace(place) || !isLoad(load)) {
            return UNKNOWN;
        }
        if (!hasMachine(place)) {
            return found(NO_MACHINE);
        }
        enter(place);
        int answer = putInside(place, load);
        leave(place);
        return answer;
    }

    private int putInside(int place, int load) {
        if (cells.get(loadCell(load, WHERE)) != WAITING) {
            return found(NO_LOAD);
        }
        if (isBusy(place)) {
            return found(BUSY);
        }
        if (isBank(place) && read(place, DRUMS) == 0) {
            return found(NOUGHT);
        }
        if (weightInside(place) + cells.get(loadCell(load, WEIGHT)) > roomOf(place)) {
            return found(ROOM);
        }
        if (!mixesInside(place, cells.get(loadCell(load, COLOUR)))) {
            return found(MIX);
        }
        int loads = read(place, LOADS);
        if (loads >= MOST_INSIDE) {
            return FULL;
        }
        write(place, INSIDE + loads, load);
        write(place, LOADS, loads + 1);
        cells.set(loadCell(load, WHERE), place);
        return loads + 1;
    }

    public int fetch(int load) {
        if (!isLoad(load)) {
            return UNKNOWN;
        }
        int place = cells.get(loadCell(load, WHERE));
        if (!isPlace(place)) {
            return found(NO_LOAD);
        }
        enter(place);
        int answer = takeFrom(place, load);
        leave(place);
        return answer;
    }

    private int takeFrom(int place, int load) {
        if (hasRun(place)) {
            return found(BUSY);
        }
        int last = read(place, LOADS) - 1;
        for (int i = 0; i < last; i++) {
            if (read(place, INSIDE + i) == load) {
                write(place, INSIDE + i, read(place, INSIDE + last));
            }
        }
        write(place, LOADS, last);
        cells.set(loadCell(load, WHERE), FETCHED);
        return place;
    }

    public int about(int load, int what) {
        if (!isLoad(load)) {
            return UNKNOWN;
        }
        if (!within(what, KIND, TICKET)) {
            return OUTSIDE;
        }
        return cells.get(loadCell(load, what));
    }

    public int share(int load, int d) {
        if (!isLoad(load)) {
            return UNKNOWN;
        }
        int place = cells.get(loadCell(load, WHERE));
        if (!isPlace(place)) {
            return found(NO_LOAD);
        }
        if (!isBank(place)) {
            return found(NOT_THAT_MACHINE);
        }
        int drums = read(place, DRUMS);
        if (!within(d, 0, drums - 1)) {
            return found(BEHIND_THE_END);
        }
        Arrays.fill(weights, 0);
        for (int i = 0; i < drums && i < MOST_DRUMS; i++) {
            weights[i] = read(place, ROOMS + i);
        }
        return shareOf(cells.get(loadCell(load, WEIGHT)), d);
    }

    // ---- runs

    public int start(int place, int p) {
        if (!isPlace(place) || !isProgram(p)) {
            return UNKNOWN;
        }
        if (!hasMachine(place)) {
            return found(NO_MACHINE);
        }
        enter(place);
        int finding = whyNoRun(place, p);
        if (finding == 0) {
            beginRun(place, p);
        }
        leave(place);
        return finding == 0 ? 1 : found(finding);
    }

    private int whyNoRun(int place, int p) {
        if (isBusy(place)) {
            return BUSY;
        }
        if (!hasProgram(p)) {
            return NO_PROGRAM;
        }
        if (read(place, LOADS) == 0) {
            return NO_LOAD;
        }
        if (read(place, PAID) == 0) {
            return MONEY;
        }
        // A wish alone is held against the bounds here, not what others take.
        Arrays.fill(went, 0);
        int length = lengthOf(p);
        for (int i = 0; i < length; i++) {
            int step = kindOf(cells.get(stepCell(p, i)));
            if (!kindAt(place).canDo(step)) {
                return NOT_THAT_MACHINE;
            }
            askWishes(place, step);
            if (!fitsBounds()) {
                return BOUND;
            }
        }
        return 0;
    }

    private void beginRun(int place, int p) {
        int length = lengthOf(p);
        for (int i = 0; i < length; i++) {
            write(place, RUN_STEPS + i, cells.get(stepCell(p, i)));
        }
        write(place, STEPS, length);
        write(place, STEP_LEFT, length == 0 ? 0 : minutesOf(read(place, RUN_STEPS)));
        write(place, OPEN, 0);
        write(place, LAMP, GOES);
        grow(place, BEGUN, 1);
        cells.set(RUN_BEGUN, 1);
        if (length == 0) {
            endRun(place);
        }
    }

    public int minute(int n) {
        if (!within(n, 1, 60)) {
            return OUTSIDE;
        }
        for (int i = 0; i < n; i++) {
            cells.beginMinute();
            breakDown();
            serveRuns();
            cells.endMinute();
        }
        return cells.time();
    }

    private void breakDown() {
        for (int place = 0; place < PLACES; place++) {
            if (read(place, BREAK_AT) == cells.time()) {
                enter(place);
                if (hasRun(place)) {
                    grow(place, CUT_SHORT, 1);
                    endRun(place);
                }
                write(place, LAMP, BROKEN);
                write(place, BREAK_AT, 0);
                leave(place);
            }
        }
    }

    private void serveRuns() {
        int runs = lineUpRuns();
        Arrays.fill(went, 0);
        for (int i = 0; i < runs; i++) {
            int place = line[i];
            int step = kindOf(read(place, RUN_STEPS + read(place, STEP_AT)));
            enter(place);
            askWishes(place, step);
            if (fitsBounds()) {
                goOn(place, step);
            } else {
                waitOn(place);
            }
            if (!hasRun(place)) {
                endRun(place);
            }
            leave(place);
        }
        for (int w = WATER; w <= POWER; w++) {
            cells.set(ALL_USED + w, went[w]);
        }
    }

    /** Fills the line with places of runs, what waited longest first, and tells how many they are. */
    private int lineUpRuns() {
        int runs = 0;
        for (int place = 0; place < PLACES; place++) {
            if (hasRun(place)) {
                int waited = read(place, WAITED);
                int to = runs;
                while (to > 0 && read(line[to - 1], WAITED) < waited) {
                    line[to] = line[to - 1];
                    to--;
                }
                line[to] = place;
                runs++;
            }
        }
        return runs;
    }

    /** One minute less of the run; behind the last one no minute of a step is left. */
    private void goOn(int place, int step) {
        for (int w = WATER; w <= POWER; w++) {
            went[w] += asked[w];
            grow(place, TOOK + w, asked[w]);
        }
        grow(place, STANDS, asked[WATER]);
        if (step == DRAIN) {
            drainOff(place);
        }
        if (step == TURN) {
            grow(place, WORN, kindAt(place).wear(1));
        }
        grow(place, WENT, 1);
        write(place, WAITED, 0);
        write(place, LAMP, GOES);
        grow(place, STEP_LEFT, -1);
        int next = read(place, STEP_AT) + 1;
        if (read(place, STEP_LEFT) == 0 && next < read(place, STEPS)) {
            write(place, STEP_AT, next);
            write(place, STEP_LEFT, minutesOf(read(place, RUN_STEPS + next)));
        }
    }

    private void waitOn(int place) {
        grow(place, WAITED, 1);
        grow(place, LINGERED, 1);
        write(place, LAMP, WAITS);
    }

    private void endRun(int place) {
        drainOff(place);
        write(place, OPEN, 1);
        write(place, LAMP, FREE);
        write(place, PAID, 0);
        write(place, WAITED, 0);
        write(place, STEPS, 0);
        write(place, STEP_AT, 0);
        write(place, STEP_LEFT, 0);
    }

    private void drainOff(int place) {
        cells.add(WATER_OFF, read(place, STANDS));
        write(place, STANDS, 0);
    }

    public int left(int place) {
        if (!isPlace(place)) {
            return UNKNOWN;
        }
        return hasMachine(place) ? minutesLeft(place) : found(NO_MACHINE);
    }

    public int stop(int place) {
        if (!isPlace(place)) {
            return UNKNOWN;
        }
        if (!hasMachine(place)) {
            return found(NO_MACHINE);
        }
        enter(place);
        int answer = STATE;
        if (hasRun(place)) {
            answer = minutesLeft(place);
            grow(place, CUT_SHORT, 1);
            endRun(place);
        }
        leave(place);
        return answer;
    }

    public int breaks(int place, int n) {
        if (!isPlace(place)) {
            return UNKNOWN;
        }
        if (!within(n, 0, 1000)) {
            return OUTSIDE;
        }
        if (!hasMachine(place)) {
            return found(NO_MACHINE);
        }
        write(place, BREAK_AT, n == 0 ? 0 : cells.time() + n);
        return 1;
    }

    public int mend(int place) {
        if (!isPlace(place)) {
            return UNKNOWN;
        }
        if (!hasMachine(place)) {
            return found(NO_MACHINE);
        }
        enter(place);
        boolean wasBroken = read(place, LAMP) == BROKEN;
        if (wasBroken) {
            write(place, LAMP, FREE);
        }
        leave(place);
        return wasBroken ? 1 : 0;
    }

    public int bound(int water, int heat, int power) {
        if (!within(water, 0, 10000) || !within(heat, 0, 10000) || !within(power, 0, 10000)) {
            return OUTSIDE;
        }
        if (cells.get(RUN_BEGUN) == 1) {
            return STATE;
        }
        cells.set(ALL_BOUNDS + WATER, water);
        cells.set(ALL_BOUNDS + HEAT, heat);
        cells.set(ALL_BOUNDS + POWER, power);
        return 1;
    }

    public int used(int what) {
        if (!within(what, 0, 5)) {
            return OUTSIDE;
        }
        return cells.get(what <= POWER ? ALL_USED + what : ALL_BOUNDS + what - 3);
    }

    // ---- books

    public int book(int place, int what) {
        if (!isPlace(place)) {
            return UNKNOWN;
        }
        if (!within(what, 0, BOOKS - 1)) {
            return OUTSIDE;
        }
        return hasMachine(place) ? read(place, BOOK + what) : found(NO_MACHINE);
    }

    public int cost(int place, int cost) {
        if (!isPlace(place)) {
            return UNKNOWN;
        }
        if (!within(cost, 0, 1000000)) {
            return OUTSIDE;
        }
        int sum = 0;
        for (int i = 0; i < PLACES; i++) {
            weights[i] = read(i, WENT);
            sum += weights[i];
        }
        return sum == 0 ? found(NOUGHT) : shareOf(cost, place);
    }

    public int count(int what) {
        switch (what) {
            case 0: return cells.time();
            case 1: return countMachines();
            case 2: return countPrograms();
            case 3: return cells.get(LOAD_COUNT);
            case 4: return tickets;
            case 5: return countRuns();
            case 6: return till.moneyInside();
            case 7: return cells.get(PUT_IN);
            case 8: return cells.get(GIVEN_BACK);
            case 9: return cells.get(PAID_EVER);
            case 10: return cells.get(WATER_OFF);
            case 11: return cells.keptMinutes();
            case 12: return findings;
            default: return OUTSIDE;
        }
    }

    public int back(int n) {
        if (!within(n, 1, MOST_BACK)) {
            return OUTSIDE;
        }
        if (n > cells.keptMinutes()) {
            return STATE;
        }
        cells.undoMinutes(n);
        return cells.time();
    }

    public long digest() {
        long h = 17;
        h = h * 31 + cells.time();
        for (int place = 0; place < PLACES; place++) {
            h = h * 31 + (read(place, KIND) - 1);
            if (hasMachine(place)) {
                h = h * 31 + read(place, STANDS);
                h = h * 31 + read(place, LAMP);
                h = h * 31 + minutesLeft(place);
                h = h * 31 + read(place, LOADS);
                h = h * 31 + till.creditOf(place);
            }
        }
        for (int k = 0; k < TUBES; k++) {
            h = h * 31 + cells.get(ALL_COINS + k);
        }
        int loads = cells.get(LOAD_COUNT);
        for (int load = 0; load < loads; load++) {
            h = h * 31 + cells.get(loadCell(load, WHERE));
        }
        return h;
    }

    public int status() {
        return latestFinding;
    }

    // ---- what the calls share

    private int found(int finding) {
        latestFinding = finding;
        findings++;
        return FINDINGS_FROM - finding;
    }

    private void enter(int place) {
        if (isPlace(place)) {
            entries[place] += 1 + read(place, DRUMS);
        }
    }

    private void leave(int place) {
        if (isPlace(place)) {
            leavings[place] += 1 + read(place, DRUMS);
        }
    }

    private int read(int place, int field) {
        return cells.get(place * PLACE_CELLS + field);
    }

    private void write(int place, int field, int value) {
        cells.set(place * PLACE_CELLS + field, value);
    }

    private void grow(int place, int field, int by) {
        cells.add(place * PLACE_CELLS + field, by);
    }

    private boolean hasMachine(int place) {
        return read(place, KIND) > 0;
    }

    private boolean isBank(int place) {
        return read(place, KIND) == BANK + 1;
    }

    private boolean hasRun(int place) {
        return read(place, STEP_LEFT) > 0;
    }

    private boolean isBusy(int place) {
        return hasRun(place) || read(place, LAMP) == BROKEN;
    }

    /** Which bodies the machine of a place has; to be asked only where there is one. */
    private Machine kindAt(int place) {
        int kind = read(place, KIND) - 1;
        return kinds[within(kind, WASHER, BANK) ? kind : WASHER];
    }

    private int roomOf(int place) {
        int sum = 0;
        for (int i = 0; i < MOST_DRUMS; i++) {
            sum += read(place, ROOMS + i);
        }
        return sum;
    }

    private int weightInside(int place) {
        int sum = 0;
        int loads = read(place, LOADS);
        for (int i = 0; i < loads; i++) {
            sum += cells.get(loadCell(read(place, INSIDE + i), WEIGHT));
        }
        return sum;
    }

    private boolean mixesInside(int place, int colour) {
        int loads = read(place, LOADS);
        for (int i = 0; i < loads; i++) {
            if (!mayMix(colour, cells.get(loadCell(read(place, INSIDE + i), COLOUR)))) {
                return false;
            }
        }
        return true;
    }

    private boolean mayMix(int a, int b) {
        return cells.get(barredCell(a, b)) == 0;
    }

    private void askWishes(int place, int step) {
        Machine kind = kindAt(place);
        int drums = read(place, DRUMS);
        asked[WATER] = kind.water(step, drums);
        asked[HEAT] = kind.heat(step, drums);
        asked[POWER] = kind.power(step, drums);
    }

    private boolean fitsBounds() {
        for (int w = WATER; w <= POWER; w++) {
            if (went[w] + asked[w] > cells.get(ALL_BOUNDS + w)) {
                return false;
            }
        }
        return true;
    }

    private int minutesLeft(int place) {
        int sum = read(place, STEP_LEFT);
        int steps = read(place, STEPS);
        for (int i = read(place, STEP_AT) + 1; i < steps; i++) {
            sum += minutesOf(read(place, RUN_STEPS + i));
        }
        return sum;
    }

    /** What falls to one number of an amount that is shared by the weights. */
    private int shareOf(int amount, int which) {
        long sum = 0;
        for (int weight : weights) {
            sum += weight;
        }
        if (sum <= 0 || !isPlace(which)) {
            return 0;
        }
        // A cost times its minutes is beyond an int.
        long product = (long) amount * weights[which];
        long over = amount;
        int ahead = 0;
        for (int i = 0; i < PLACES; i++) {
            long other = (long) amount * weights[i];
            over -= other / sum;
            boolean earlier = i < which && other % sum == product % sum;
            if (other % sum > product % sum || earlier) {
                ahead++;
            }
        }
        return (int) (product / sum) + (ahead < over ? 1 : 0);
    }

    private int countMachines() {
        int n = 0;
        for (int place = 0; place < PLACES; place++) {
            n += hasMachine(place) ? 1 : 0;
        }
        return n;
    }

    private int countPrograms() {
        int n = 0;
        for (int p = 0; p < PROGRAMS; p++) {
            n += hasProgram(p) ? 1 : 0;
        }
        return n;
    }

    private int countRuns() {
        int n = 0;
        for (int place = 0; place < PLACES; place++) {
            n += hasRun(place) ? 1 : 0;
        }
        return n;
    }

    private boolean hasProgram(int p) {
        return cells.get(programCell(p)) > 0;
    }

    private int lengthOf(int p) {
        return cells.get(programCell(p)) - 1;
    }

    private boolean isLoad(int load) {
        return within(load, 0, cells.get(LOAD_COUNT) - 1);
    }

    private static boolean isPlace(int place) {
        return within(place, 0, PLACES - 1);
    }

    private static boolean isProgram(int p) {
        return within(p, 0, PROGRAMS - 1);
    }

    private static boolean isTube(int k) {
        return within(k, 0, TUBES - 1);
    }

    private static boolean isColour(int colour) {
        return within(colour, 0, COLOURS - 1);
    }

    private static boolean isWish(int what, int step) {
        if (what == WEAR) {
            return within(step, 0, 1000);
        }
        return what == SPEED || within(what, WATER, POWER) && within(step, FILL, REST);
    }

    private static boolean within(int number, int least, int most) {
        return number >= least && number <= most;
    }

    private static int programCell(int p) {
        return ALL_PROGRAMS + p * PROGRAM_CELLS;
    }

    private static int stepCell(int p, int i) {
        return programCell(p) + 1 + i;
    }

    private static int loadCell(int load, int what) {
        return ALL_LOADS + load * LOAD_CELLS + what;
    }

    private static int barredCell(int a, int b) {
        return ALL_BARRED + a * COLOURS + b;
    }

    private static int kindOf(int step) {
        return step / STEP_KIND;
    }

    private static int minutesOf(int step) {
        return step % STEP_KIND;
    }

    /**
     * The state, as one row of numbers. Each change logs what it wrote over, so that minutes can be
     * undone without a copy of the state for each of 301 times.
     */
    private static final class Cells {
        private static final int KEPT_TIMES = MOST_BACK + 1, LEAST_LOG = 2048;
        // Far above what 512 calls can log within 300 minutes.
        private static final int MOST_LOG = 1 << 20;

        private final int[] now = new int[ALL_CELLS];
        private final int[] marks = new int[KEPT_TIMES];
        private int[] log = new int[LEAST_LOG];
        // The log of the oldest time that is kept begins at first.
        private int first = 0;
        private int end = 0;
        private int time = 0;
        private int oldest = 0;

        int get(int at) {
            return at < 0 || at >= now.length ? 0 : now[at];
        }

        void set(int at, int value) {
            if (at < 0 || at >= now.length || now[at] == value) {
                return;
            }
            if (end > log.length - 2) {
                makeRoom();
            }
            if (end <= log.length - 2) {
                log[end] = at;
                log[end + 1] = now[at];
                end += 2;
            }
            now[at] = value;
        }

        void add(int at, int by) {
            set(at, get(at) + by);
        }

        int time() {
            return time;
        }

        int keptMinutes() {
            return time - oldest;
        }

        void beginMinute() {
            // Of time 0 it is the state right ahead of this minute that is kept.
            if (time == 0) {
                first = 0;
                end = 0;
                oldest = 0;
                marks[0] = 0;
            }
            time++;
        }

        void endMinute() {
            oldest = Math.max(oldest, time - MOST_BACK);
            marks[slotOf(time)] = end;
            first = marks[slotOf(oldest)];
        }

        void undoMinutes(int n) {
            time -= n;
            int mark = marks[slotOf(time)];
            while (end > mark && end >= 2) {
                end -= 2;
                int at = log[end];
                if (within(at, 0, now.length - 1)) {
                    now[at] = log[end + 1];
                }
            }
        }

        /** Lets go what lies ahead of the oldest time that is kept; grows if that frees too little. */
        private void makeRoom() {
            if (first > 0 && first <= end) {
                System.arraycopy(log, first, log, 0, end - first);
                for (int i = 0; i < KEPT_TIMES; i++) {
                    marks[i] = Math.max(0, marks[i] - first);
                }
                end -= first;
                first = 0;
            }
            if (end > log.length / 2 && log.length < MOST_LOG) {
                log = Arrays.copyOf(log, log.length * 2);
            }
        }

        private static int slotOf(int time) {
            return Math.floorMod(time, KEPT_TIMES);
        }
    }

    /** Coins in tubes, whose credit they are, and the fewest ones for change. */
    private static final class Till {
        private static final int NEVER = 1000000;

        private final Cells cells;
        private final int[] byValue = new int[TUBES];
        private final int[] spare = new int[TUBES];
        private final int[] picked = new int[TUBES];
        private final int[] gave = new int[TUBES];
        // Row i: the fewest coins for each amount out of the i tubes of the least values.
        private final int[][] fewest = new int[TUBES + 1][MOST_CHANGE + 1];

        Till(Cells cells) {
            this.cells = cells;
        }

        int gaveLast(int k) {
            return isTube(k) ? gave[k] : UNKNOWN;
        }

        int creditOf(int place) {
            int sum = 0;
            for (int k = 0; k < TUBES; k++) {
                sum += cells.get(creditCell(place, k)) * cells.get(ALL_VALUES + k);
            }
            return sum;
        }

        boolean hasCredit() {
            for (int place = 0; place < PLACES; place++) {
                if (creditOf(place) > 0) {
                    return true;
                }
            }
            return false;
        }

        boolean anotherHas(int tube, int value) {
            for (int k = 0; k < TUBES; k++) {
                if (k != tube && cells.get(ALL_VALUES + k) == value) {
                    return true;
                }
            }
            return false;
        }

        int moneyInside() {
            int sum = 0;
            for (int k = 0; k < TUBES; k++) {
                sum += cells.get(ALL_VALUES + k) * cells.get(ALL_COINS + k);
            }
            return sum;
        }

        int giveBack(int place) {
            int amount = creditOf(place);
            for (int k = 0; k < TUBES; k++) {
                takeOff(k, cells.get(creditCell(place, k)));
                cells.set(creditCell(place, k), 0);
            }
            cells.add(GIVEN_BACK, amount);
            return amount;
        }

        /** Gives the change that was found last, and keeps the credit of the place. */
        void giveChange(int place, int amount) {
            for (int k = 0; k < TUBES; k++) {
                cells.set(creditCell(place, k), 0);
                takeOff(k, picked[k]);
                gave[k] = picked[k];
            }
            cells.add(GIVEN_BACK, amount);
        }

        boolean findChange(int place, int amount) {
            if (!within(amount, 0, MOST_CHANGE)) {
                return false;
            }
            sortByValue();
            countSpare(place);
            Arrays.fill(fewest[0], NEVER);
            fewest[0][0] = 0;
            for (int i = 0; i < TUBES; i++) {
                int k = byValue[i];
                System.arraycopy(fewest[i], 0, fewest[i + 1], 0, amount + 1);
                addTube(fewest[i + 1], cells.get(ALL_VALUES + k), spare[k], amount);
            }
            if (fewest[TUBES][amount] >= NEVER) {
                return false;
            }
            pickCoins(amount);
            return true;
        }

        private void takeOff(int k, int coins) {
            cells.add(ALL_COINS + k, -coins);
        }

        private void sortByValue() {
            for (int k = 0; k < TUBES; k++) {
                int to = k;
                while (to > 0 && cells.get(ALL_VALUES + byValue[to - 1]) > cells.get(ALL_VALUES + k)) {
                    byValue[to] = byValue[to - 1];
                    to--;
                }
                byValue[to] = k;
            }
        }

        private void countSpare(int place) {
            for (int k = 0; k < TUBES; k++) {
                spare[k] = cells.get(ALL_COINS + k);
                for (int other = 0; other < PLACES; other++) {
                    spare[k] -= other == place ? 0 : cells.get(creditCell(other, k));
                }
            }
        }

        /** Coins are added by lots of 1, 2, 4 and so on: any number of them is a sum of lots. */
        private static void addTube(int[] row, int value, int coins, int amount) {
            int rest = mostOf(value, coins, amount);
            for (int lot = 1; rest > 0 && lot <= MOST_CHANGE; lot *= 2) {
                int n = Math.min(lot, rest);
                int worth = n * value;
                for (int sum = amount; sum >= worth; sum--) {
                    row[sum] = Math.min(row[sum], row[sum - worth] + n);
                }
                rest -= n;
            }
        }

        /** The greatest values first, of each the most coins that still leave the fewest of all. */
        private void pickCoins(int amount) {
            int sum = amount;
            for (int i = TUBES; i > 0; i--) {
                int k = byValue[i - 1];
                int value = cells.get(ALL_VALUES + k);
                int n = mostOf(value, spare[k], sum);
                while (n > 0 && fewest[i - 1][sum - n * value] + n != fewest[i][sum]) {
                    n--;
                }
                picked[k] = n;
                sum -= n * value;
            }
        }

        private static int mostOf(int value, int coins, int amount) {
            return value <= 0 ? 0 : Math.max(0, Math.min(coins, amount / value));
        }

        private static int creditCell(int place, int k) {
            return place * PLACE_CELLS + CREDIT + k;
        }
    }

    /** Which bodies began, the latest ones. */
    private static final class Trace {
        private static final int TOLD = 30;

        private final int[] bodies = new int[TOLD];
        private int size = 0;
        private int next = 0;

        void begin(int kind, int number) {
            bodies[next] = 10 * kind + number;
            next = (next + 1) % TOLD;
            size = Math.min(size + 1, TOLD);
        }

        int latest(int i) {
            return within(i, 0, size - 1) ? bodies[Math.floorMod(next - 1 - i, TOLD)] : NONE;
        }
    }

    /**
     * What all kinds stand under. Kinds hold no state of a place: back() would have to undo it. So
     * how many drums there are is told to each body.
     */
    private abstract static class Machine {
        final Trace begun;

        Machine(Trace begun) {
            this.begun = begun;
        }

        boolean fills() {
            return false;
        }

        boolean turns() {
            return false;
        }

        boolean warms() {
            return false;
        }

        boolean canDo(int step) {
            switch (step) {
                case FILL:
                case DRAIN:
                    return fills();
                case TURN:
                    return turns();
                case WARM:
                    return warms();
                default:
                    return true;
            }
        }

        int water(int step, int drums) {
            begun.begin(MACHINE, WATER);
            return 0;
        }

        int heat(int step, int drums) {
            begun.begin(MACHINE, HEAT);
            return 0;
        }

        int power(int step, int drums) {
            begun.begin(MACHINE, POWER);
            return 1;
        }

        /** To be asked only of what turns, as is wear. */
        abstract int speed();

        int wear(int minutes) {
            begun.begin(TURNS, WEAR);
            return minutes * speed();
        }
    }

    private static class Washer extends Machine {
        Washer(Trace begun) {
            super(begun);
        }

        boolean fills() {
            return true;
        }

        boolean turns() {
            return true;
        }

        int water(int step, int drums) {
            begun.begin(WASHER, WATER);
            return step == FILL ? 10 : super.water(step, drums);
        }

        int heat(int step, int drums) {
            begun.begin(WASHER, HEAT);
            return step == TURN ? 4 : super.heat(step, drums);
        }

        int power(int step, int drums) {
            begun.begin(WASHER, POWER);
            return super.power(step, drums) + (step == TURN || step == DRAIN ? 2 : 0);
        }

        int speed() {
            begun.begin(WASHER, SPEED);
            return 2;
        }
    }

    private static final class Spinner extends Washer {
        Spinner(Trace begun) {
            super(begun);
        }

        int heat(int step, int drums) {
            begun.begin(SPINNER, HEAT);
            return super.heat(step, drums) / 2;
        }

        int power(int step, int drums) {
            begun.begin(SPINNER, POWER);
            return 2 * super.power(step, drums);
        }

        int speed() {
            begun.begin(SPINNER, SPEED);
            return 3 * super.speed();
        }
    }

    private static final class Bank extends Washer {
        Bank(Trace begun) {
            super(begun);
        }

        int water(int step, int drums) {
            begun.begin(BANK, WATER);
            return super.water(step, drums) * drums;
        }

        int heat(int step, int drums) {
            begun.begin(BANK, HEAT);
            return super.heat(step, drums) * drums;
        }

        int power(int step, int drums) {
            begun.begin(BANK, POWER);
            return super.power(step, drums) + drums;
        }
    }

    private static class Dryer extends Machine {
        Dryer(Trace begun) {
            super(begun);
        }

        boolean turns() {
            return true;
        }

        boolean warms() {
            return true;
        }

        int heat(int step, int drums) {
            begun.begin(DRYER, HEAT);
            if (step == WARM) {
                return 9;
            }
            return step == TURN ? 5 : super.heat(step, drums);
        }

        int power(int step, int drums) {
            begun.begin(DRYER, POWER);
            return super.power(step, drums) + (step == TURN ? 3 : 0);
        }

        int speed() {
            begun.begin(DRYER, SPEED);
            return 1;
        }
    }

    private static final class Press extends Dryer {
        Press(Trace begun) {
            super(begun);
        }

        boolean turns() {
            return false;
        }

        int heat(int step, int drums) {
            begun.begin(PRESS, HEAT);
            return step == WARM ? 7 : super.heat(step, drums);
        }
    }
}
