import java.util.Arrays;

/** Doors by consent: see README.md for how to use it; shared/DOC.md has the promises that it keeps. */
public final class ConsentDoors {
    public static final int NONE = -1;

    private static final int NO_SUCH = -2;
    private static final int BELOW_ZERO = -3;
    private static final int FAULTY = -4;
    private static final int HAS_NOTHING = -6;
    private static final int BEYOND = -7;
    private static final int UNLIKE = -8;
    private static final int NO_OTHER = -1000;

    private static final int MAX_TAPE = 1600;
    private static final int MAX_CELLS = 9;
    private static final int MAX_HOURS = 24;
    private static final int MAX_TOLD = 8;
    private static final int MAX_POINTS = 9;
    private static final int MAX_ROW = 60;
    private static final int MAX_SEED = 2000000000;
    private static final int MAX_ODDS = 100;
    private static final int MAX_DRAWINGS = 20;
    private static final int IMAGES = 3;
    private static final int SLOTS = 4;
    private static final int WIDTHS = 4;

    private static final int LEFT = 0;
    private static final int RIGHT = 1;

    private static final int FRIENDLY = 0;
    private static final int PIOUS = 1;
    private static final int MOODY = 2;
    private static final int DEAF = 3;

    private static final int WALL = 1;
    private static final int IS_OUT = 2;
    private static final int IS_ASLEEP = 3;
    private static final int IS_DEAF = 4;
    private static final int THEY_QUARREL = 5;
    private static final int NOT_HIS_HOUR = 6;
    private static final int LIKES_TOO_LITTLE = 7;

    private final Reader reader = new Reader();
    private final Prison held = new Prison();
    private final Prison draft = new Prison();
    private final Outlook outlook = new Outlook();
    private final Outlook trial = new Outlook();
    private final Course course = new Course();
    private final Course trialCourse = new Course();
    private final Corridor corridors = new Corridor();
    private final Inquiry inquiry = new Inquiry();
    private final Prison[] images = new Prison[IMAGES];
    private final boolean[] kept = new boolean[IMAGES];
    private final Slot[] slots = new Slot[SLOTS];

    public ConsentDoors() {
        for (int k = 0; k < IMAGES; k++) {
            images[k] = new Prison();
        }
        for (int s = 0; s < SLOTS; s++) {
            slots[s] = new Slot();
        }
    }

    // The TAPE and the PRISON that it tells.

    public int feed(int a, int b, int c, int d, int e) {
        Tape tape = reader.tape;
        if (tape.length + 20 > MAX_TAPE) {
            return NONE;
        }
        tape.append(a);
        tape.append(b);
        tape.append(c);
        tape.append(d);
        tape.append(e);
        return tape.length;
    }

    public int end(int n) {
        if (n < 0 || n > reader.tape.length) {
            return NONE;
        }
        reader.tape.length = n;
        return n;
    }

    public int prison() {
        boolean sound = reader.readTape();
        reader.tape.length = 0;
        if (!sound) {
            return FAULTY;
        }
        held.copy(reader.into);
        settle();
        return held.lines;
    }

    public int fault(int what) {
        switch (what) {
            case 0: return reader.fault;
            case 1: return reader.place;
            default: return NONE;
        }
    }

    public int cell(int cell, int what) {
        if (!held.hasCell(cell)) {
            return NO_SUCH;
        }
        switch (what) {
            case 0: return held.kind[cell];
            case 1: return held.number[cell];
            case 2: return held.temper[cell];
            case 3: return held.told[2 * cell + LEFT];
            case 4: return held.told[2 * cell + RIGHT];
            case 5: return bit(held.loyal, cell);
            case 6: return held.sleepsTold[cell];
            default: return NO_SUCH;
        }
    }

    public int beside(int cell, int side) {
        if (!held.hasCell(cell) || !isSide(side)) {
            return NO_SUCH;
        }
        return held.neighbour(cell, side);
    }

    public int likes(int cell, int side, int hour) {
        if (!held.hasCell(cell) || !isSide(side) || !held.hasHour(hour)) {
            return NO_SUCH;
        }
        return held.neighbour(cell, side) == NONE ? 0 : held.liking(2 * cell + side, hour);
    }

    // What men would do and what doors could do, nobody being out.

    public int reason(int cell, int side, int hour) {
        if (!held.hasCell(cell) || !isSide(side) || !held.hasHour(hour)) {
            return NO_SUCH;
        }
        return held.whyNot(cell, side, hour, 0);
    }

    public int hours(int cell, int side) {
        if (!held.hasCell(cell) || !isSide(side)) {
            return NO_SUCH;
        }
        return outlook.keys.turnHours[2 * cell + side];
    }

    public int could(int cell) {
        return held.hasCell(cell) ? outlook.keys.openHours[cell] : NO_SUCH;
    }

    public int longest(int cell, int what) {
        if (!held.hasCell(cell) || what < 0 || what > 1) {
            return NO_SUCH;
        }
        int run = 0;
        int longestRun = 0;
        int first = NONE;
        for (int hour = 0; hour < held.hours; hour++) {
            run = bit(outlook.keys.openHours[cell], hour) == 1 ? run + 1 : 0;
            if (run > longestRun) {
                longestRun = run;
                first = hour - run + 1;
            }
        }
        return what == 0 ? longestRun : first;
    }

    public int common(int cell, int other) {
        if (!held.hasCell(cell) || !held.hasCell(other) || cell == other) {
            return NO_SUCH;
        }
        return Integer.bitCount(outlook.keys.openHours[cell] & outlook.keys.openHours[other]);
    }

    // The PLAN and what comes of it.

    public int plan(int hour, int cell) {
        if (!held.hasHour(hour) || (cell != NONE && !held.hasCell(cell))) {
            return NO_SUCH;
        }
        int was = held.plan[hour];
        held.plan[hour] = cell;
        course.follow(held, outlook.keys);
        return was;
    }

    public int opens(int hour) {
        return held.hasHour(hour) ? course.opened[hour] : NO_SUCH;
    }

    public int why(int hour) {
        if (!held.hasHour(hour)) {
            return NO_SUCH;
        }
        int cell = held.plan[hour];
        int gone = course.goneAhead(hour);
        if (cell == NONE) {
            return 1;
        }
        if (bit(gone, cell) == 1) {
            return 2;
        }
        if (held.refusal(cell, LEFT, hour, gone) > WALL) {
            return 3;
        }
        return held.refusal(cell, RIGHT, hour, gone) > WALL ? 4 : 0;
    }

    public int because(int hour, int side) {
        if (!held.hasHour(hour) || !isSide(side)) {
            return NO_SUCH;
        }
        int cell = held.plan[hour];
        int gone = course.goneAhead(hour);
        if (cell == NONE || bit(gone, cell) == 1) {
            return NONE;
        }
        return held.refusal(cell, side, hour, gone);
    }

    public int out(int hour) {
        return held.hasHour(hour) ? course.goneBehind[hour] : NO_SUCH;
    }

    public int free(int cell) {
        if (!held.hasCell(cell)) {
            return NO_SUCH;
        }
        for (int hour = 0; hour < held.hours; hour++) {
            if (course.opened[hour] == cell) {
                return hour;
            }
        }
        return NONE;
    }

    public int turned(int cell) {
        if (!held.hasCell(cell)) {
            return NO_SUCH;
        }
        int turns = 0;
        for (int hour = 0; hour < held.hours; hour++) {
            int freed = course.opened[hour];
            if (freed != NONE && bit(outlook.keys.neighbours[freed], cell) == 1) {
                turns++;
            }
        }
        return turns;
    }

    public int wrist(int hour, int side) {
        if (!held.hasHour(hour) || !isSide(side)) {
            return NO_SUCH;
        }
        int freed = course.opened[hour];
        return freed == NONE ? NONE : held.neighbour(freed, side);
    }

    public int vain() {
        if (!held.stands()) {
            return NO_SUCH;
        }
        int tries = 0;
        for (int hour = 0; hour < held.hours; hour++) {
            if (held.plan[hour] != NONE && course.opened[hour] == NONE) {
                tries++;
            }
        }
        return tries;
    }

    // What any PLAN can do.

    public int most(int hour) {
        return held.hasHour(hour) ? outlook.reach[hour + 1].largestWith(0) : NO_SUCH;
    }

    public int best(int hour) {
        return held.hasHour(hour) ? outlook.firstBestDoor(hour) : NO_SUCH;
    }

    public int soonest(int n) {
        if (!held.stands() || n < 1 || n > MAX_CELLS) {
            return NO_SUCH;
        }
        for (int hour = 0; hour < held.hours; hour++) {
            if (outlook.reach[hour + 1].largestWith(0) >= n) {
                return hour;
            }
        }
        return NONE;
    }

    public int sets(int hour) {
        return held.hasHour(hour) ? outlook.reach[hour + 1].size() : NO_SUCH;
    }

    public int together(int set) {
        if (!held.stands() || set < 0 || set >= 1 << held.cells) {
            return NO_SUCH;
        }
        for (int hour = 0; hour < held.hours; hour++) {
            if (outlook.reach[hour + 1].largestWith(set) != NONE) {
                return hour;
            }
        }
        return NONE;
    }

    public int locked() {
        if (!held.stands()) {
            return NO_SUCH;
        }
        int never = 0;
        for (int cell = 0; cell < held.cells; cell++) {
            if (outlook.atLast().largestWith(1 << cell) == NONE) {
                never |= 1 << cell;
            }
        }
        return never;
    }

    public int others(int cell) {
        if (!held.hasCell(cell)) {
            return NO_SUCH;
        }
        int most = outlook.atLast().largestWith(1 << cell);
        return most == NONE ? NONE : most - 1;
    }

    // Who is out only ever keeps doors shut, and a PLAN may leave all in: so by any PLAN
    // a door can open in just those HOURS in which it could, nobody being out.
    public int latest(int cell) {
        if (!held.hasCell(cell)) {
            return NO_SUCH;
        }
        for (int hour = held.hours - 1; hour >= 0; hour--) {
            if (bit(outlook.keys.openHours[cell], hour) == 1) {
                return hour;
            }
        }
        return NONE;
    }

    public int earliest(int cell) {
        if (!held.hasCell(cell)) {
            return NO_SUCH;
        }
        for (int hour = 0; hour < held.hours; hour++) {
            if (bit(outlook.keys.openHours[cell], hour) == 1) {
                return hour;
            }
        }
        return NONE;
    }

    public int astray() {
        if (!held.stands()) {
            return NO_SUCH;
        }
        outlook.aimAtMost();
        for (int hour = 0; hour < held.hours; hour++) {
            if (!outlook.winning[hour + 1].has(course.goneBehind[hour])) {
                return hour;
            }
        }
        return NONE;
    }

    // Points of liking.

    public int flatter(int cell, int hour) {
        if (!held.hasCell(cell) || !held.hasHour(hour)) {
            return NO_SUCH;
        }
        return held.price(cell, hour, false);
    }

    public int when(int cell) {
        if (!held.hasCell(cell)) {
            return NO_SUCH;
        }
        int cheapest = NONE;
        int first = NONE;
        for (int hour = 0; hour < held.hours; hour++) {
            int price = held.price(cell, hour, false);
            if (price != NONE && (first == NONE || price < cheapest)) {
                cheapest = price;
                first = hour;
            }
        }
        return first;
    }

    public int corridor(int from, int to) {
        return cheapestCorridor(from, to, false);
    }

    public int friends(int from, int to) {
        return cheapestCorridor(from, to, true);
    }

    private int cheapestCorridor(int from, int to, boolean perMan) {
        if (!held.hasCell(from) || !held.hasCell(to) || (!held.ring && from > to)) {
            return NO_SUCH;
        }
        return corridors.cheapest(held, outlook.keys, held.stretch(from, to), perMan);
    }

    // What would be otherwise, if something were otherwise.

    public int mends(int n, int what) {
        if (!held.stands() || n < 0 || n > MAX_CELLS || what < 0 || what > 1) {
            return NO_SUCH;
        }
        draft.copy(held);
        if (mostIfMended(held.quarrels) < n) {
            return NONE;
        }
        int mended = leastMending(n, neededMends(n));
        return what == 0 ? Integer.bitCount(mended) : mended;
    }

    private int leastMending(int n, int needed) {
        int all = held.quarrels;
        int least = all;
        for (int mended = needed; mended < all; mended++) {
            boolean smaller = Integer.bitCount(mended) < Integer.bitCount(least);
            boolean possible = (mended & ~all) == 0 && (needed & ~mended) == 0;
            if (smaller && possible && mostIfMended(mended) >= n) {
                least = mended;
            }
        }
        return least;
    }

    // Mending never shuts a door: a quarrel without whose mending all the others are too few
    // is of every set, which spares most of the up to 512 sets.
    private int neededMends(int n) {
        int needed = 0;
        for (int cell = 0; cell < held.cells; cell++) {
            int one = held.quarrels & 1 << cell;
            if (one != 0 && mostIfMended(held.quarrels & ~one) < n) {
                needed |= one;
            }
        }
        return needed;
    }

    private int mostIfMended(int mended) {
        draft.quarrels = held.quarrels & ~mended;
        trial.explore(draft);
        return trial.atLast().largestWith(0);
    }

    private int mostOfDraft() {
        trial.explore(draft);
        return trial.atLast().largestWith(0);
    }

    private int mostNow() {
        return outlook.atLast().largestWith(0);
    }

    public int harm(int cell) {
        return held.hasCell(cell) ? harmOf(cell) : NO_SUCH;
    }

    private int harmOf(int cell) {
        draft.copy(held);
        draft.kind[cell] = DEAF;
        return mostNow() - mostOfDraft();
    }

    public int courted() {
        if (!held.stands()) {
            return NO_SUCH;
        }
        int worst = 0;
        int first = 0;
        for (int cell = 0; cell < held.cells; cell++) {
            int harm = harmOf(cell);
            if (harm > worst) {
                worst = harm;
                first = cell;
            }
        }
        return first;
    }

    public int loyalty(int cell) {
        if (!held.hasCell(cell)) {
            return NO_SUCH;
        }
        draft.copy(held);
        draft.loyal |= 1 << cell;
        return mostOfDraft() - mostNow();
    }

    public int soup(int cell, int side, int n, int hour) {
        if (!held.hasCell(cell) || !isSide(side) || !isPoints(n) || !held.hasHour(hour)
                || held.neighbour(cell, side) == NONE) {
            return NO_SUCH;
        }
        return gainBySoup(2 * cell + side, n, hour);
    }

    private int gainBySoup(int bond, int n, int hour) {
        draft.copy(held);
        draft.addSoup(bond, n, hour);
        return mostOfDraft() - mostNow();
    }

    public int gift(int n) {
        if (!held.stands() || !isPoints(n)) {
            return NO_SUCH;
        }
        int best = 0;
        int first = NONE;
        for (int bond = 0; bond < 2 * held.cells; bond++) {
            int cell = bond / 2;
            int side = bond % 2;
            int gain = held.neighbour(cell, side) == NONE ? 0 : gainBySoup(bond, n, 0);
            if (gain > best) {
                best = gain;
                first = 10 * cell + side;
            }
        }
        return first;
    }

    public int other(int what) {
        boolean noRing = what == 4 && held.cells < 3;
        if (!held.stands() || what < 0 || what > 4 || noRing) {
            return NO_OTHER;
        }
        draft.copy(held);
        switch (what) {
            case 0: Arrays.fill(draft.sleepHours, 0); break;
            case 1: Arrays.fill(draft.told, MAX_POINTS); break;
            case 2: draft.quarrels = 0; break;
            case 3: Arrays.fill(draft.kind, FRIENDLY); break;
            default: draft.ring = !held.ring; break;
        }
        return mostOfDraft() - mostNow();
    }

    // Doors that nobody tries, men who are missed.

    public int doors(int hour) {
        return held.hasHour(hour) ? openDoors(hour) : NO_SUCH;
    }

    private int openDoors(int hour) {
        int open = 0;
        int gone = course.goneAhead(hour);
        for (int cell = 0; cell < held.cells; cell++) {
            if (outlook.keys.opensFor(cell, hour, gone)) {
                open |= 1 << cell;
            }
        }
        return open;
    }

    public int idle() {
        if (!held.stands()) {
            return NO_SUCH;
        }
        int idleHours = 0;
        for (int hour = 0; hour < held.hours; hour++) {
            if (course.opened[hour] == NONE && openDoors(hour) != 0) {
                idleHours++;
            }
        }
        return idleHours;
    }

    public int wanted(int cell) {
        if (!held.hasCell(cell)) {
            return NO_SUCH;
        }
        return Integer.bitCount(missedHours(cell, LEFT)) + Integer.bitCount(missedHours(cell, RIGHT));
    }

    private int missedHours(int cell, int side) {
        int door = held.neighbour(cell, side);
        if (door == NONE) {
            return 0;
        }
        int all = (1 << held.hours) - 1;
        int helper = held.neighbour(door, side);
        int helped = helper == NONE ? all : outlook.keys.turnHours[2 * helper + 1 - side];
        return helped & ~outlook.keys.turnHours[2 * cell + side];
    }

    public int busy(int what) {
        if (!held.stands() || what < 0 || what > 1) {
            return NO_SUCH;
        }
        int mostDoors = 0;
        int first = 0;
        for (int hour = 0; hour < held.hours; hour++) {
            int open = howManyHave(outlook.keys.openHours, hour);
            if (open > mostDoors) {
                mostDoors = open;
                first = hour;
            }
        }
        return what == 0 ? first : mostDoors;
    }

    private int howManyHave(int[] hoursOfCells, int hour) {
        int found = 0;
        for (int cell = 0; cell < held.cells; cell++) {
            found += bit(hoursOfCells[cell], hour);
        }
        return found;
    }

    // Tales that a SLOT's row tells.

    public int refused(int slot) {
        int bar = barToTale(slot, true);
        if (bar != 0) {
            return bar;
        }
        inquiry.weigh(outlook.keys, slots[slot]);
        return inquiry.found;
    }

    public int fewest(int slot) {
        int bar = barToTale(slot, true);
        if (bar != 0) {
            return bar;
        }
        inquiry.weigh(outlook.keys, slots[slot]);
        return inquiry.found == 0 ? NONE : inquiry.least;
    }

    public int sure(int slot, int what) {
        int bar = what < 0 || what > 1 ? NO_SUCH : barToTale(slot, true);
        if (bar != 0) {
            return bar;
        }
        inquiry.weigh(outlook.keys, slots[slot]);
        if (inquiry.found == 0) {
            return NONE;
        }
        int all = (1 << held.cells) - 1;
        return what == 0 ? inquiry.inAll : all & ~inquiry.inSome;
    }

    public int odd(int slot) {
        int bar = barToTale(slot, true);
        return bar != 0 ? bar : inquiry.firstUntrue(outlook.keys, slots[slot], 0);
    }

    public int forged(int slot) {
        int bar = barToTale(slot, false);
        if (bar != 0) {
            return bar;
        }
        int nods = 0;
        for (int cell = 0; cell < held.cells; cell++) {
            nods += inquiry.forgedNods(held, course, slots[slot], cell);
        }
        return nods;
    }

    public int forger(int slot) {
        int bar = barToTale(slot, false);
        if (bar != 0) {
            return bar;
        }
        int mostNods = 0;
        int first = NONE;
        for (int cell = 0; cell < held.cells; cell++) {
            int nods = inquiry.forgedNods(held, course, slots[slot], cell);
            if (nods > mostNods) {
                mostNods = nods;
                first = cell;
            }
        }
        return first;
    }

    private int barToTale(int slot, boolean rising) {
        if (!isSlot(slot) || !held.stands()) {
            return NO_SUCH;
        }
        if (!slots[slot].hasRow) {
            return HAS_NOTHING;
        }
        boolean sound = slots[slot].tells(held.hours, held.cells) && (!rising || slots[slot].rises());
        return sound ? 0 : NO_SUCH;
    }

    // What is otherwise from now on.

    public int temper(int cell, int n) {
        if (!held.hasCell(cell) || n < 0 || n > MAX_POINTS) {
            return NO_SUCH;
        }
        int was = held.temper[cell];
        held.temper[cell] = n;
        settle();
        return was;
    }

    public int quarrel(int cell, int is) {
        if (!held.hasCell(cell) || is < 0 || is > 1 || held.neighbour(cell, RIGHT) == NONE) {
            return NO_SUCH;
        }
        int was = bit(held.quarrels, cell);
        held.quarrels = held.quarrels & ~(1 << cell) | is << cell;
        settle();
        return was;
    }

    public int vow(int cell, int is) {
        if (!held.hasCell(cell) || is < 0 || is > 1) {
            return NO_SUCH;
        }
        int was = bit(held.loyal, cell);
        held.loyal = held.loyal & ~(1 << cell) | is << cell;
        settle();
        return was;
    }

    private void settle() {
        outlook.explore(held);
        course.follow(held, outlook.keys);
    }

    // Sleep, pairs, sleeps drawn.

    public int sleep(int cell, int what) {
        if (!held.hasCell(cell) || what < 0 || what > 1) {
            return NO_SUCH;
        }
        return what == 0 ? Integer.bitCount(held.sleepHours[cell]) : sleepiestHour();
    }

    private int sleepiestHour() {
        int mostSleepers = 0;
        int first = 0;
        for (int hour = 0; hour < held.hours; hour++) {
            int sleepers = howManyHave(held.sleepHours, hour);
            if (sleepers > mostSleepers) {
                mostSleepers = sleepers;
                first = hour;
            }
        }
        return first;
    }

    public int asleep(int hour) {
        return held.hasHour(hour) ? howManyHave(held.sleepHours, hour) : NO_SUCH;
    }

    public int pairs(int hour) {
        if (!held.hasHour(hour)) {
            return NO_SUCH;
        }
        int found = 0;
        for (int cell = 0; cell < held.cells; cell++) {
            int next = held.neighbour(cell, RIGHT);
            if (next != NONE) {
                int[] turnHours = outlook.keys.turnHours;
                found += bit(turnHours[2 * cell + RIGHT] & turnHours[2 * next + LEFT], hour);
            }
        }
        return found;
    }

    public int drawn(int seed, int odds, int what) {
        if (!held.stands() || !isDrawing(seed, odds) || what < 0 || what > 2) {
            return NO_SUCH;
        }
        draft.copy(held);
        int drowsyHours = draft.drawSleeps(seed, odds);
        switch (what) {
            case 0: return outInDraft();
            case 1: return mostOfDraft();
            default: return drowsyHours;
        }
    }

    public int chance(int seed, int n, int odds, int cell) {
        if (!held.hasCell(cell) || !isDrawing(seed, odds) || n < 1 || n > MAX_DRAWINGS) {
            return NO_SUCH;
        }
        int found = 0;
        for (int i = 0; i < n; i++) {
            draft.copy(held);
            draft.drawSleeps(seed + i, odds);
            found += bit(outInDraft(), cell);
        }
        return found;
    }

    private int outInDraft() {
        trial.keys.read(draft);
        trialCourse.follow(draft, trial.keys);
        return trialCourse.goneAhead(draft.hours);
    }

    public int count(int what) {
        switch (what) {
            case 0: return held.cells;
            case 1: return held.hours;
            case 2: return Integer.bitCount(held.quarrels);
            case 3: return held.sleeps;
            case 4: return held.soups;
            case 5: return held.lines;
            case 6: return reader.tape.length;
            case 7: return held.ring ? 1 : 0;
            case 8: return held.doorsTried();
            case 9: return rowsHeld();
            default: return NONE;
        }
    }

    private int rowsHeld() {
        int rows = 0;
        for (int s = 0; s < SLOTS; s++) {
            if (slots[s].hasRow) {
                rows++;
            }
        }
        return rows;
    }

    // IMAGES and SLOTS.

    public int keep(int k) {
        if (k < 0 || k >= IMAGES) {
            return NO_SUCH;
        }
        images[k].copy(held);
        kept[k] = true;
        return 0;
    }

    public int back(int k) {
        if (k < 0 || k >= IMAGES) {
            return NO_SUCH;
        }
        if (!kept[k]) {
            return HAS_NOTHING;
        }
        held.copy(images[k]);
        settle();
        return 0;
    }

    public int row(int slot, int width, int n) {
        if (!isSlot(slot) || width < 0 || width >= WIDTHS || n > MAX_ROW) {
            return NO_SUCH;
        }
        if (n < 0) {
            return BELOW_ZERO;
        }
        slots[slot].lay(width, n);
        return 0;
    }

    public int write(int slot, int i, long v) {
        if (!isSlot(slot)) {
            return NO_SUCH;
        }
        if (!slots[slot].hasRow) {
            return HAS_NOTHING;
        }
        if (i < 0 || i >= slots[slot].size) {
            return BEYOND;
        }
        slots[slot].put(i, v);
        return 0;
    }

    public int paste(int slot, int i, int to, int k, int n) {
        if (!isSlot(slot) || !isSlot(to)) {
            return NO_SUCH;
        }
        Slot source = slots[slot];
        Slot target = slots[to];
        if (!source.hasRow || !target.hasRow) {
            return HAS_NOTHING;
        }
        if (source.width != target.width) {
            return UNLIKE;
        }
        if (!source.holds(i, n) || !target.holds(k, n)) {
            return BEYOND;
        }
        System.arraycopy(source.numbers, i, target.numbers, k, n);
        return 0;
    }

    private static int bit(int bits, int i) {
        return bits >> i & 1;
    }

    private static boolean isSide(int side) {
        return side == LEFT || side == RIGHT;
    }

    private static boolean isSlot(int slot) {
        return slot >= 0 && slot < SLOTS;
    }

    private static boolean isPoints(int n) {
        return n >= 1 && n <= MAX_POINTS;
    }

    private static boolean isDrawing(int seed, int odds) {
        return seed >= 0 && seed <= MAX_SEED && odds >= 0 && odds <= MAX_ODDS;
    }

    /** The bytes that have been fed. */
    private static final class Tape {
        final byte[] bytes = new byte[MAX_TAPE];
        int length;

        void append(int number) {
            for (int shift = 24; shift >= 0 && length < MAX_TAPE; shift -= 8) {
                bytes[length] = (byte) (number >> shift);
                length++;
            }
        }
    }

    /** What is told of a prison, and the PLAN. Without cells there is no PRISON. */
    private static final class Prison {
        int cells;
        int hours;
        int lines;
        boolean ring;
        int loyal;
        int quarrels;
        int sleeps;
        int soups;
        final int[] kind = new int[MAX_CELLS];
        final int[] number = new int[MAX_CELLS];
        final int[] temper = new int[MAX_CELLS];
        final int[] sleepsTold = new int[MAX_CELLS];
        final int[] sleepHours = new int[MAX_CELLS];
        // A bond is a man and a SIDE: 2 * CELL + SIDE.
        final int[] told = new int[2 * MAX_CELLS];
        // A soup's bond is of the man who likes more by it, not of the giver.
        // One soup more than can be told has room: one that is only supposed.
        final int[] soupBond = new int[MAX_TOLD + 1];
        final int[] soupPoints = new int[MAX_TOLD + 1];
        final int[] soupHour = new int[MAX_TOLD + 1];
        final int[] plan = new int[MAX_HOURS];

        void clear() {
            cells = 0;
            hours = 0;
            lines = 0;
            ring = false;
            loyal = 0;
            quarrels = 0;
            sleeps = 0;
            soups = 0;
            Arrays.fill(kind, FRIENDLY);
            Arrays.fill(number, 0);
            Arrays.fill(temper, 0);
            Arrays.fill(sleepsTold, 0);
            Arrays.fill(sleepHours, 0);
            Arrays.fill(told, MAX_POINTS);
            Arrays.fill(plan, NONE);
        }

        void copy(Prison from) {
            cells = from.cells;
            hours = from.hours;
            lines = from.lines;
            ring = from.ring;
            loyal = from.loyal;
            quarrels = from.quarrels;
            sleeps = from.sleeps;
            soups = from.soups;
            System.arraycopy(from.kind, 0, kind, 0, MAX_CELLS);
            System.arraycopy(from.number, 0, number, 0, MAX_CELLS);
            System.arraycopy(from.temper, 0, temper, 0, MAX_CELLS);
            System.arraycopy(from.sleepsTold, 0, sleepsTold, 0, MAX_CELLS);
            System.arraycopy(from.sleepHours, 0, sleepHours, 0, MAX_CELLS);
            System.arraycopy(from.told, 0, told, 0, 2 * MAX_CELLS);
            System.arraycopy(from.soupBond, 0, soupBond, 0, MAX_TOLD + 1);
            System.arraycopy(from.soupPoints, 0, soupPoints, 0, MAX_TOLD + 1);
            System.arraycopy(from.soupHour, 0, soupHour, 0, MAX_TOLD + 1);
            System.arraycopy(from.plan, 0, plan, 0, MAX_HOURS);
        }

        boolean stands() {
            return cells > 0;
        }

        boolean hasCell(int cell) {
            return cell >= 0 && cell < cells;
        }

        boolean hasHour(int hour) {
            return hour >= 0 && hour < hours;
        }

        int neighbour(int cell, int side) {
            int next = side == LEFT ? cell - 1 : cell + 1;
            if (next >= 0 && next < cells) {
                return next;
            }
            if (!ring) {
                return NONE;
            }
            return side == LEFT ? cells - 1 : 0;
        }

        /** The CELLS, as bits, from one on to the right up to another one. */
        int stretch(int from, int to) {
            int bits = 0;
            int cell = from;
            for (int i = 0; i < cells && cell != NONE; i++) {
                bits |= 1 << cell;
                cell = cell == to ? NONE : neighbour(cell, RIGHT);
            }
            return bits;
        }

        int doorsTried() {
            int doors = 0;
            for (int hour = 0; hour < hours; hour++) {
                if (plan[hour] != NONE) {
                    doors++;
                }
            }
            return doors;
        }

        void addSleep(int cell, int from, int to) {
            for (int hour = from; hour <= to && hour < MAX_HOURS; hour++) {
                sleepHours[cell] |= 1 << hour;
            }
            sleepsTold[cell]++;
            sleeps++;
        }

        void addSoup(int bond, int points, int hour) {
            if (soups > MAX_TOLD) {
                return;
            }
            soupBond[soups] = bond;
            soupPoints[soups] = points;
            soupHour[soups] = hour;
            soups++;
        }

        int liking(int bond, int hour) {
            int points = told[bond];
            for (int i = 0; i < soups; i++) {
                if (soupBond[i] == bond && soupHour[i] <= hour) {
                    points += soupPoints[i];
                }
            }
            return points;
        }

        /** REASON why a man does not turn for the one on a SIDE, those who are out being told as bits; 0: none. */
        int whyNot(int cell, int side, int hour, int gone) {
            int him = neighbour(cell, side);
            if (him == NONE) {
                return WALL;
            }
            if (bit(gone & ~loyal, cell) == 1) {
                return IS_OUT;
            }
            if (bit(sleepHours[cell], hour) == 1) {
                return IS_ASLEEP;
            }
            if (kind[cell] == DEAF) {
                return IS_DEAF;
            }
            if (bit(quarrels, side == RIGHT ? cell : him) == 1) {
                return THEY_QUARREL;
            }
            if (!isHisHour(cell, side, hour)) {
                return NOT_HIS_HOUR;
            }
            return liking(2 * cell + side, hour) < temper[cell] ? LIKES_TOO_LITTLE : 0;
        }

        private boolean isHisHour(int cell, int side, int hour) {
            if (kind[cell] == PIOUS) {
                return hour % 2 == (side == LEFT ? 0 : 1);
            }
            return kind[cell] != MOODY || number[cell] < 1 || hour % number[cell] == 0;
        }

        /** REASON why the man on a SIDE of a CELL does not turn for it; WALL, if there is nobody. */
        int refusal(int cell, int side, int hour, int gone) {
            int man = neighbour(cell, side);
            return man == NONE ? WALL : whyNot(man, 1 - side, hour, gone);
        }

        /** Points of liking (or men) that a door lacks in an HOUR, nobody being out; NONE: these don't help. */
        int price(int cell, int hour, boolean perMan) {
            int sum = 0;
            for (int side = LEFT; side <= RIGHT; side++) {
                int because = refusal(cell, side, hour, 0);
                if (because == LIKES_TOO_LITTLE) {
                    int man = neighbour(cell, side);
                    sum += perMan ? 1 : temper[man] - liking(2 * man + 1 - side, hour);
                } else if (because > WALL) {
                    return NONE;
                }
            }
            return sum;
        }

        /** Sleeps by draw come besides those that are told: in how many HOURS somebody sleeps by them alone. */
        int drawSleeps(int seed, int odds) {
            int drowsyHours = 0;
            long x = seed;
            for (int hour = 0; hour < hours; hour++) {
                boolean drowsy = false;
                for (int cell = 0; cell < cells; cell++) {
                    x = (1103515245L * x + 12345L) % 2147483648L;
                    if (x / 65536L % 100L < odds && bit(sleepHours[cell], hour) == 0) {
                        sleepHours[cell] |= 1 << hour;
                        drowsy = true;
                    }
                }
                drowsyHours += drowsy ? 1 : 0;
            }
            return drowsyHours;
        }
    }

    /** Reads the TAPE as a PRISON. Behind the first FAULT nothing more is taken. */
    private static final class Reader {
        private static final int END = 0;
        private static final int WORD = 1;
        private static final int NUMBER = 2;
        private static final int SIGN = 3;
        private static final int STRAY = 4;

        private static final int BLANK = 32;
        private static final int NEW_LINE = 10;

        private static final int MISPLACED = 1;
        private static final int OUT_OF_BOUNDS = 2;
        private static final int TOO_MANY = 3;

        // Above every bound, so that a number of many digits stays out of them all.
        private static final int HUGE = 1000;

        final Tape tape = new Tape();
        final Prison into = new Prison();
        private int at;
        private int next;
        private int sort;
        private int value;
        private int cellsTold;
        int fault;
        int place = NONE;

        /** Whether the TAPE tells a PRISON. */
        boolean readTape() {
            fault = 0;
            place = NONE;
            next = 0;
            cellsTold = 0;
            into.clear();
            advance();
            for (int i = 0; i < MAX_TAPE && fault == 0 && sort != END; i++) {
                readLine();
                into.lines++;
            }
            return fault == 0;
        }

        private void readLine() {
            if (into.lines == 0) {
                readPrison();
            } else if (isWord("cell")) {
                readCell();
            } else if (isWord("quarrel")) {
                readQuarrel();
            } else if (isWord("sleeps")) {
                readSleeps();
            } else if (isWord("soup")) {
                readSoup();
            } else if (isWord("plan")) {
                readPlan();
            } else {
                fail(MISPLACED);
            }
        }

        private void readPrison() {
            takeWord("prison");
            takeWord("cells");
            int cells = takeNumber(2, MAX_CELLS);
            takeWord("hours");
            int hours = takeNumber(1, MAX_HOURS);
            boolean ring = isWord("ring");
            if (ring && cells == 2) {
                fail(OUT_OF_BOUNDS);
            }
            takeWord(ring ? "ring" : "row");
            takeSign();
            if (fault == 0) {
                into.cells = cells;
                into.hours = hours;
                into.ring = ring;
            }
        }

        private void readCell() {
            if (cellsTold >= into.cells) {
                fail(TOO_MANY);
            }
            takeWord("cell");
            int kind = takeKind();
            int number = kind == MOODY ? takeNumber(2, 9) : 0;
            takeWord("temper");
            int temper = takeNumber(0, MAX_POINTS);
            takeWord("left");
            int left = takeNumber(0, MAX_POINTS);
            takeWord("right");
            int right = takeNumber(0, MAX_POINTS);
            boolean loyal = isWord("loyal");
            if (loyal) {
                takeWord("loyal");
            }
            takeSign();
            if (fault == 0) {
                into.kind[cellsTold] = kind;
                into.number[cellsTold] = number;
                into.temper[cellsTold] = temper;
                into.told[2 * cellsTold + LEFT] = left;
                into.told[2 * cellsTold + RIGHT] = right;
                into.loyal |= loyal ? 1 << cellsTold : 0;
                cellsTold++;
            }
        }

        private void readQuarrel() {
            takeWord("quarrel");
            boolean known = sort == NUMBER && into.hasCell(value);
            if (known && (into.neighbour(value, RIGHT) == NONE || bit(into.quarrels, value) == 1)) {
                fail(OUT_OF_BOUNDS);
            }
            int cell = takeNumber(0, into.cells - 1);
            takeSign();
            if (fault == 0) {
                into.quarrels |= 1 << cell;
            }
        }

        private void readSleeps() {
            if (into.sleeps >= MAX_TOLD) {
                fail(TOO_MANY);
            }
            takeWord("sleeps");
            int cell = takeNumber(0, into.cells - 1);
            takeWord("from");
            int from = takeNumber(0, into.hours - 1);
            takeWord("to");
            int to = takeNumber(from, into.hours - 1);
            takeSign();
            if (fault == 0) {
                into.addSleep(cell, from, to);
            }
        }

        private void readSoup() {
            if (into.soups >= MAX_TOLD) {
                fail(TOO_MANY);
            }
            takeWord("soup");
            int cell = takeNumber(0, into.cells - 1);
            takeWord("gives");
            int side = isWord("left") ? LEFT : RIGHT;
            boolean named = isWord("left") || isWord("right");
            int eater = into.neighbour(cell, side);
            if (fault == 0 && named && eater == NONE) {
                fail(OUT_OF_BOUNDS);
            }
            takeWord(side == LEFT ? "left" : "right");
            int points = takeNumber(1, MAX_POINTS);
            takeWord("in");
            int hour = takeNumber(0, into.hours - 1);
            takeSign();
            // The points are the eater's: he likes the giver more, whom he has on his other SIDE.
            if (fault == 0) {
                into.addSoup(2 * eater + 1 - side, points, hour);
            }
        }

        private void readPlan() {
            takeWord("plan");
            int hour = takeNumber(0, into.hours - 1);
            int cell = takeNumber(0, into.cells - 1);
            takeSign();
            if (fault == 0) {
                into.plan[hour] = cell;
            }
        }

        private int takeKind() {
            int kind = NONE;
            if (isWord("friendly")) {
                kind = FRIENDLY;
            } else if (isWord("pious")) {
                kind = PIOUS;
            } else if (isWord("moody")) {
                kind = MOODY;
            } else if (isWord("deaf")) {
                kind = DEAF;
            }
            if (kind == NONE) {
                fail(MISPLACED);
            }
            advance();
            return kind;
        }

        private void takeWord(String word) {
            if (!isWord(word)) {
                fail(MISPLACED);
            }
            advance();
        }

        private void takeSign() {
            if (sort != SIGN) {
                fail(MISPLACED);
            }
            advance();
        }

        private int takeNumber(int least, int most) {
            int taken = value;
            if (sort != NUMBER) {
                fail(MISPLACED);
            } else if (taken < least || taken > most) {
                fail(OUT_OF_BOUNDS);
            }
            advance();
            return taken;
        }

        private void fail(int what) {
            if (fault == 0) {
                fault = what;
                place = at;
            }
        }

        private boolean isWord(String word) {
            if (sort != WORD || next - at != word.length()) {
                return false;
            }
            for (int i = 0; i < word.length(); i++) {
                if (tape.bytes[at + i] != word.charAt(i)) {
                    return false;
                }
            }
            return true;
        }

        /** Goes on to the next TOKEN, but stays at a FAULT. */
        private void advance() {
            if (fault != 0) {
                return;
            }
            while (next < tape.length && (tape.bytes[next] == BLANK || tape.bytes[next] == NEW_LINE)) {
                next++;
            }
            at = next;
            value = 0;
            if (at >= tape.length) {
                sort = END;
                return;
            }
            sort = sortOf(tape.bytes[at]);
            boolean longer = sort == WORD || sort == NUMBER;
            do {
                if (sort == NUMBER) {
                    value = Math.min(HUGE, 10 * value + tape.bytes[next] - '0');
                }
                next++;
            } while (longer && next < tape.length && sortOf(tape.bytes[next]) == sort);
        }

        private static int sortOf(int sign) {
            if (sign >= 'a' && sign <= 'z') {
                return WORD;
            }
            if (sign >= '0' && sign <= '9') {
                return NUMBER;
            }
            return sign == ';' ? SIGN : STRAY;
        }
    }

    /** In which HOURS men would turn and doors could open, and who being out keeps a door shut. */
    private static final class Keys {
        // Of the 64 sets of CELLS 0 .. 5, a bit each: those that lack CELL j.
        private static final long[] LACKING = {
            0x5555555555555555L, 0x3333333333333333L, 0x0F0F0F0F0F0F0F0FL,
            0x00FF00FF00FF00FFL, 0x0000FFFF0000FFFFL, 0x00000000FFFFFFFFL
        };

        int cells;
        int hours;
        final int[] turnHours = new int[2 * MAX_CELLS];
        final int[] openHours = new int[MAX_CELLS];
        final int[] neighbours = new int[MAX_CELLS];
        final int[] barring = new int[MAX_CELLS];
        final long[] unbarred = new long[MAX_CELLS];

        void read(Prison from) {
            cells = from.cells;
            hours = from.hours;
            for (int bond = 0; bond < 2 * cells; bond++) {
                turnHours[bond] = 0;
                for (int hour = 0; hour < hours; hour++) {
                    if (from.whyNot(bond / 2, bond % 2, hour, 0) == 0) {
                        turnHours[bond] |= 1 << hour;
                    }
                }
            }
            for (int cell = 0; cell < cells; cell++) {
                readDoor(from, cell);
            }
        }

        private void readDoor(Prison from, int cell) {
            int open = (1 << hours) - 1;
            int beside = 0;
            for (int side = LEFT; side <= RIGHT; side++) {
                int man = from.neighbour(cell, side);
                if (man != NONE) {
                    open &= turnHours[2 * man + 1 - side];
                    beside |= 1 << man;
                }
            }
            openHours[cell] = open;
            neighbours[cell] = beside;
            barring[cell] = 1 << cell | beside & ~from.loyal;
            unbarred[cell] = lackingAll(barring[cell]);
        }

        boolean opensFor(int cell, int hour, int gone) {
            return bit(openHours[cell], hour) == 1 && (gone & barring[cell]) == 0;
        }

        /** Of the 64 sets of CELLS 0 .. 5, a bit each: those that have none of these. */
        static long lackingAll(int these) {
            long all = -1L;
            for (int j = 0; j < LACKING.length; j++) {
                if ((these >> j & 1) == 1) {
                    all &= LACKING[j];
                }
            }
            return all;
        }

        /** Likewise: those that have all of these. */
        static long havingAll(int these) {
            long all = -1L;
            for (int j = 0; j < LACKING.length; j++) {
                if ((these >> j & 1) == 1) {
                    all &= ~LACKING[j];
                }
            }
            return all;
        }
    }

    /** What comes of a PLAN, HOUR by HOUR. */
    private static final class Course {
        final int[] opened = new int[MAX_HOURS];
        final int[] goneBehind = new int[MAX_HOURS];

        void follow(Prison prison, Keys keys) {
            int gone = 0;
            for (int hour = 0; hour < prison.hours; hour++) {
                int cell = prison.plan[hour];
                boolean opens = cell != NONE && keys.opensFor(cell, hour, gone);
                opened[hour] = opens ? cell : NONE;
                gone |= opens ? 1 << cell : 0;
                goneBehind[hour] = gone;
            }
        }

        int goneAhead(int hour) {
            return hour >= 1 && hour <= MAX_HOURS ? goneBehind[hour - 1] : 0;
        }
    }

    /**
     * Some of the 512 sets of CELLS, a bit each: bit s % 64 of word s / 64 is set s, so that
     * a door's opening moves 64 sets at once.
     */
    private static final class Sets {
        private static final int WORDS = 8;
        private static final int LOW_CELLS = 6;

        final long[] words = new long[WORDS];

        void clear() {
            Arrays.fill(words, 0L);
        }

        void copy(Sets from) {
            System.arraycopy(from.words, 0, words, 0, WORDS);
        }

        void add(int set) {
            words[set >> LOW_CELLS & WORDS - 1] |= 1L << (set & 63);
        }

        boolean has(int set) {
            return (words[set >> LOW_CELLS & WORDS - 1] >>> (set & 63) & 1L) == 1L;
        }

        int size() {
            int size = 0;
            for (int w = 0; w < WORDS; w++) {
                size += Long.bitCount(words[w]);
            }
            return size;
        }

        /** How many men the largest set has that has all of these; NONE: none has. */
        int largestWith(int these) {
            int largest = NONE;
            int high = these >> LOW_CELLS;
            long having = Keys.havingAll(these);
            for (int w = 0; w < WORDS; w++) {
                long word = words[w] & having;
                if ((w & high) == high && word != 0L) {
                    largest = Math.max(largest, Integer.bitCount(w) + largestIn(word));
                }
            }
            return largest;
        }

        private static int largestIn(long word) {
            int largest = 0;
            for (int s = 0; s < 64; s++) {
                if ((word >>> s & 1L) == 1L) {
                    largest = Math.max(largest, Integer.bitCount(s));
                }
            }
            return largest;
        }

        /** Adds to each of the sets ahead of an HOUR who can come out in it. */
        void addNext(Sets ahead, Keys keys, int cell) {
            int high = keys.barring[cell] >> LOW_CELLS;
            int step = wordStep(cell);
            int shift = bitShift(cell);
            for (int w = 0; w < wordsFor(keys.cells); w++) {
                if ((w & high) == 0) {
                    words[w | step] |= (ahead.words[w] & keys.unbarred[cell]) << shift;
                }
            }
        }

        /** Adds the sets from which one of those behind an HOUR comes about, if a door opens. */
        void addPrevious(Sets behind, Keys keys, int cell) {
            int high = keys.barring[cell] >> LOW_CELLS;
            int step = wordStep(cell);
            int shift = bitShift(cell);
            for (int w = 0; w < wordsFor(keys.cells); w++) {
                if ((w & high) == 0) {
                    words[w] |= behind.words[w | step] >>> shift & keys.unbarred[cell];
                }
            }
        }

        private static int wordsFor(int cells) {
            return cells <= LOW_CELLS ? 1 : 1 << (cells - LOW_CELLS);
        }

        private static int wordStep(int cell) {
            return cell < LOW_CELLS ? 0 : 1 << (cell - LOW_CELLS);
        }

        private static int bitShift(int cell) {
            return cell < LOW_CELLS ? 1 << cell : 0;
        }
    }

    /** Who can be out by any PLAN. */
    private static final class Outlook {
        final Keys keys = new Keys();
        // Who can be out ahead of HOUR h, and who is on the way to the most: h as far as HOURS.
        final Sets[] reach = new Sets[MAX_HOURS + 1];
        final Sets[] winning = new Sets[MAX_HOURS + 1];

        Outlook() {
            for (int hour = 0; hour <= MAX_HOURS; hour++) {
                reach[hour] = new Sets();
                winning[hour] = new Sets();
            }
        }

        void explore(Prison prison) {
            keys.read(prison);
            reach[0].clear();
            reach[0].add(0);
            for (int hour = 0; hour < keys.hours; hour++) {
                reach[hour + 1].copy(reach[hour]);
                for (int cell = 0; cell < keys.cells; cell++) {
                    if (bit(keys.openHours[cell], hour) == 1) {
                        reach[hour + 1].addNext(reach[hour], keys, cell);
                    }
                }
            }
        }

        Sets atLast() {
            return reach[keys.hours];
        }

        void aimAtMost() {
            int most = atLast().largestWith(0);
            Sets goal = winning[keys.hours];
            goal.clear();
            for (int set = 0; set < 1 << keys.cells; set++) {
                if (Integer.bitCount(set) == most) {
                    goal.add(set);
                }
            }
            for (int hour = keys.hours - 1; hour > 0; hour--) {
                winning[hour].copy(winning[hour + 1]);
                for (int cell = 0; cell < keys.cells; cell++) {
                    if (bit(keys.openHours[cell], hour) == 1) {
                        winning[hour].addPrevious(winning[hour + 1], keys, cell);
                    }
                }
            }
        }

        int firstBestDoor(int hour) {
            aimAtMost();
            int gone = 0;
            int door = NONE;
            for (int h = 0; h <= hour && h < keys.hours; h++) {
                door = firstWinningDoor(h, gone);
                gone |= door == NONE ? 0 : 1 << door;
            }
            return door;
        }

        private int firstWinningDoor(int hour, int gone) {
            if (winning[hour + 1].has(gone)) {
                return NONE;
            }
            for (int cell = 0; cell < keys.cells; cell++) {
                if (keys.opensFor(cell, hour, gone) && winning[hour + 1].has(gone | 1 << cell)) {
                    return cell;
                }
            }
            return NONE;
        }
    }

    /**
     * What it takes to have all of some CELLS out. A man's liking for one SIDE serves one door,
     * and that opens once: so the doors' prices just add up. Others who are out never help.
     */
    private static final class Corridor {
        private static final int TOO_DEAR = 1000000;

        private final int[] cost = new int[1 << MAX_CELLS];
        private final int[] price = new int[MAX_CELLS];

        int cheapest(Prison prison, Keys keys, int all, boolean perMan) {
            Arrays.fill(cost, TOO_DEAR);
            cost[0] = 0;
            for (int hour = 0; hour < prison.hours; hour++) {
                for (int cell = 0; cell < prison.cells; cell++) {
                    price[cell] = bit(all, cell) == 1 ? prison.price(cell, hour, perMan) : NONE;
                }
                // Downwards, so that no set takes two doors of one HOUR.
                for (int set = all; set >= 0; set--) {
                    if (cost[set] < TOO_DEAR) {
                        openOneMore(keys, set);
                    }
                }
            }
            return cost[all] < TOO_DEAR ? cost[all] : NONE;
        }

        private void openOneMore(Keys keys, int set) {
            for (int cell = 0; cell < keys.cells; cell++) {
                if (price[cell] != NONE && (keys.barring[cell] & set) == 0) {
                    int more = set | 1 << cell;
                    cost[more] = Math.min(cost[more], cost[set] + price[cell]);
                }
            }
        }
    }

    /** Numbers of one WIDTH. */
    private static final class Slot {
        boolean hasRow;
        int width;
        int size;
        final long[] numbers = new long[MAX_ROW];

        void lay(int newWidth, int newSize) {
            hasRow = true;
            width = newWidth;
            size = newSize;
            Arrays.fill(numbers, 0L);
        }

        void put(int i, long v) {
            switch (width) {
                case 0: numbers[i] = (byte) v; break;
                case 1: numbers[i] = (short) v; break;
                case 2: numbers[i] = (int) v; break;
                default: numbers[i] = v; break;
            }
        }

        boolean holds(int from, int n) {
            return from >= 0 && n >= 0 && from <= size && n <= size - from;
        }

        /** Whether it is an HOUR, a CELL and 0 or 1, over and over. */
        boolean tells(int hours, int cells) {
            if (size % 3 != 0) {
                return false;
            }
            for (int i = 0; i + 2 < size; i += 3) {
                if (!isBelow(numbers[i], hours) || !isBelow(numbers[i + 1], cells) || !isBelow(numbers[i + 2], 2)) {
                    return false;
                }
            }
            return true;
        }

        boolean rises() {
            for (int i = 3; i < size; i += 3) {
                if (numbers[i] <= numbers[i - 3]) {
                    return false;
                }
            }
            return true;
        }

        private static boolean isBelow(long number, int bound) {
            return number >= 0L && number < bound;
        }
    }

    /** What a sound tale of a SLOT says of the men. */
    private static final class Inquiry {
        int found;
        int least;
        int inAll;
        int inSome;

        void weigh(Keys keys, Slot tale) {
            int all = (1 << keys.cells) - 1;
            found = 0;
            least = all;
            inAll = all;
            inSome = 0;
            for (int men = 0; men <= all; men++) {
                if (firstUntrue(keys, tale, men) == NONE) {
                    boolean fewer = Integer.bitCount(men) < Integer.bitCount(least);
                    least = fewer ? men : least;
                    found++;
                    inAll &= men;
                    inSome |= men;
                }
            }
        }

        /** Which door, from 0, is not as told, if these men turn for nobody; NONE: all are. */
        int firstUntrue(Keys keys, Slot tale, int men) {
            int gone = 0;
            for (int i = 0; i + 2 < tale.size; i += 3) {
                int hour = (int) tale.numbers[i];
                int cell = (int) tale.numbers[i + 1];
                boolean opens = keys.opensFor(cell, hour, gone) && (keys.neighbours[cell] & men) == 0;
                if (opens != (tale.numbers[i + 2] == 1L)) {
                    return i / 3;
                }
                gone |= opens ? 1 << cell : 0;
            }
            return NONE;
        }

        int forgedNods(Prison prison, Course course, Slot tale, int cell) {
            int nods = 0;
            for (int i = 0; i + 2 < tale.size; i += 3) {
                int hour = (int) tale.numbers[i];
                int side = (int) tale.numbers[i + 2];
                boolean his = tale.numbers[i + 1] == cell;
                if (his && prison.whyNot(cell, side, hour, course.goneAhead(hour)) != 0) {
                    nods++;
                }
            }
            return nods;
        }
    }
}
