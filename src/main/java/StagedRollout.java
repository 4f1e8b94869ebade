/**
 * A simulator of changes that are let loose on a fleet by stages.
 * The document (../shared/DOC.md) promises what each public method answers.
 */
public final class StagedRollout {
    public static final int BAD_INDEX = -11;
    public static final int BAD_VALUE = -12;
    public static final int NOT_POSSIBLE = -13;
    public static final int FULL = -14;
    public static final int NONE = -15;
    public static final int PLANNED = 0, RUNNING = 1, HELD = 2, DONE = 3, TURNING = 4, TURNED = 5;
    public static final int FREE = 0, NOT_UNDER_WAY = 1, TURNS = 2, IS_HELD = 3, WAITS = 4, LACKS_SAMPLES = 5, FROZEN = 6, IS_AFTER = 7, OTHER_RISK = 8;

    private static final int FIRST_CELLS = 4, MOST_CELLS = 8;
    private static final int FIRST_LIMIT = 50, MOST_LIMIT = 1000;
    private static final int WEEK = 168, MOST_SPANS = 3;
    private static final int MOST_CHANGES = 5, MOST_STAGES = 6;
    private static final int MOST_WAIT = 48, MOST_SAMPLES = 25;
    private static final int MOST_PROBES = 25, MOST_REPORTED = 9;
    private static final int MOST_LETTERS = 60, MOST_LETTER = 127;
    private static final int MOST_HOURS = 100, FORECAST_HOURS = 400;
    private static final int MOST_ENTRIES = 20, SLOTS = 2;

    /** What a stage has, in the order in which stage() is asked for it. */
    private static final int CELLS = 0, WAIT = 1, SAMPLES = 2, STAGE_NUMBERS = 3;

    /** What an entry has, in the order in which entry() is asked for it. */
    private static final int ENTRY_TIME = 0, ENTRY_CHANGE = 1, ENTRY_EVENT = 2, ENTRY_STAGE = 3, ENTRY_NUMBERS = 4;

    private static final int CHANGE_NUMBERS = 7, PROBE_NUMBERS = 4;

    private static final int STAGE_BEGINS = 1, CHANGE_DONE = 2, CHANGE_TURNING = 3, STAGE_BACK = 4,
        CHANGE_TURNED = 5, CHANGE_HELD = 6, CHANGE_RESUMED = 7;
    private static final int ALL_CHANGES = -1;

    /** Euclid needs fewer than 80 steps for the numbers of a chance. */
    private static final int MOST_DIVISIONS = 1000;

    private final Fleet fleet;
    private final Fleet trial;
    private final Fleet[] slots;
    private final boolean[] isKept;
    private final PlanText text;

    public StagedRollout() {
        fleet = new Fleet(false);
        trial = new Fleet(true);
        slots = new Fleet[SLOTS];
        isKept = new boolean[SLOTS];
        for (int slot = 0; slot < SLOTS; slot++) {
            slots[slot] = new Fleet(false);
        }
        text = new PlanText();
    }

    // ---- fleet and settings

    public int begin(int cells) {
        if (!isWithin(cells, 1, MOST_CELLS)) {
            return BAD_VALUE;
        }
        int previous = fleet.cells;
        fleet.beginAnew(cells);
        return previous;
    }

    public int setLimit(int thousandths) {
        if (!isWithin(thousandths, 0, MOST_LIMIT)) {
            return BAD_VALUE;
        }
        int previous = fleet.limit;
        fleet.limit = thousandths;
        return previous;
    }

    public int freeze(int from, int to) {
        if (!isWithin(from, 0, WEEK - 1) || !isWithin(to, from + 1, WEEK)) {
            return BAD_VALUE;
        }
        return fleet.frozen.put(from, to) ? fleet.frozen.size : FULL;
    }

    public int thaw() {
        int previous = fleet.frozen.size;
        fleet.frozen.size = 0;
        return previous;
    }

    // ---- plans

    public int addChange(boolean risky) {
        return fleet.putChange(risky) ? fleet.size - 1 : FULL;
    }

    public int addStage(int change, int cells, int wait, int samples) {
        Change found = fleet.find(change);
        if (found == null) {
            return BAD_INDEX;
        }
        if (!isWithin(cells, 1, fleet.allCells()) || !isWithin(wait, 0, MOST_WAIT)
                || !isWithin(samples, 0, MOST_SAMPLES)) {
            return BAD_VALUE;
        }
        if (found.state != PLANNED || (found.plan.cellsOfFirst(MOST_STAGES) & cells) != 0) {
            return NOT_POSSIBLE;
        }
        return found.plan.put(cells, wait, samples) ? found.plan.size : FULL;
    }

    public int putAfter(int change, int first) {
        Change found = fleet.find(change);
        if (found == null || !isWithin(first, 0, change - 1)) {
            return BAD_INDEX;
        }
        if (found.state != PLANNED) {
            return NOT_POSSIBLE;
        }
        found.doneFirst |= 1 << first;
        return Integer.bitCount(found.doneFirst);
    }

    public int changes() {
        return fleet.size;
    }

    public int stage(int change, int stage, int what) {
        Change found = fleet.find(change);
        if (found == null || !isWithin(stage, 0, found.plan.size - 1)) {
            return BAD_INDEX;
        }
        if (!isWithin(what, 0, STAGE_NUMBERS - 1)) {
            return BAD_VALUE;
        }
        return found.plan.number(stage, what);
    }

    // ---- text

    public int append(int letter) {
        if (!isWithin(letter, 0, MOST_LETTER)) {
            return BAD_VALUE;
        }
        return text.put(letter) ? text.length : FULL;
    }

    public int clearText() {
        int previous = text.length;
        text.length = 0;
        return previous;
    }

    public int faultPosition() {
        return text.parse(fleet.cells) ? NONE : text.at;
    }

    public int read(int change) {
        Change found = fleet.find(change);
        if (found == null) {
            return BAD_INDEX;
        }
        if (found.state != PLANNED || !text.parse(fleet.cells)) {
            return NOT_POSSIBLE;
        }
        found.plan.copyFrom(text.plan);
        return found.plan.size;
    }

    // ---- what is done

    public int start(int change) {
        Change found = fleet.find(change);
        if (found == null) {
            return BAD_INDEX;
        }
        if (found.state != PLANNED || found.plan.size == 0) {
            return NOT_POSSIBLE;
        }
        found.state = RUNNING;
        return found.plan.size;
    }

    public int hold(int change) {
        return move(change, 1 << RUNNING, HELD, CHANGE_HELD);
    }

    public int resume(int change) {
        return move(change, 1 << HELD, RUNNING, CHANGE_RESUMED);
    }

    public int turnBack(int change) {
        return move(change, 1 << RUNNING | 1 << HELD | 1 << DONE, TURNING, CHANGE_TURNING);
    }

    /** The states that it may come from are a set, bit i for the state i. */
    private int move(int change, int fromStates, int toState, int event) {
        Change found = fleet.find(change);
        if (found == null) {
            return BAD_INDEX;
        }
        if ((fromStates >> found.state & 1) == 0) {
            return NOT_POSSIBLE;
        }
        fleet.become(found, toState, event);
        return found.begun;
    }

    public int report(int cell, int bad, int good) {
        if (!fleet.isCell(cell)) {
            return BAD_INDEX;
        }
        if (!isWithin(bad, 0, MOST_REPORTED) || !isWithin(good, 0, MOST_REPORTED)) {
            return BAD_VALUE;
        }
        return fleet.takeProbes(cell, bad, good);
    }

    public int pass(int hours) {
        if (!isWithin(hours, 1, MOST_HOURS)) {
            return BAD_VALUE;
        }
        int before = fleet.log.received;
        for (int i = 0; i < hours; i++) {
            fleet.passHour();
        }
        return fleet.log.received - before;
    }

    // ---- what there is

    public int time() {
        return fleet.hour;
    }

    public int change(int change, int what) {
        Change found = fleet.find(change);
        if (found == null) {
            return BAD_INDEX;
        }
        switch (what) {
            case 0:
                return found.state;
            case 1:
                return found.plan.size;
            case 2:
                return found.begun;
            case 3:
                return found.hoursSinceLatest(fleet.hour);
            case 4:
                return fleet.reasonOf(found);
            case 5:
                return found.doneFirst;
            case 6:
                return found.isRisky ? 1 : 0;
            default:
                return BAD_VALUE;
        }
    }

    public int probes(int change, int what) {
        Change found = fleet.find(change);
        if (found == null) {
            return BAD_INDEX;
        }
        switch (what) {
            case 0:
                return found.tally.badTreated;
            case 1:
                return found.tally.goodTreated;
            case 2:
                return found.tally.badControl;
            case 3:
                return found.tally.goodControl;
            default:
                return BAD_VALUE;
        }
    }

    public long chance(int change, boolean denominator) {
        Change found = fleet.find(change);
        if (found == null) {
            return BAD_INDEX;
        }
        return denominator ? found.tally.denominator : found.tally.numerator;
    }

    public int has(int cell) {
        return fleet.isCell(cell) ? fleet.changesOf(cell) : BAD_INDEX;
    }

    public int isFrozen(int hour) {
        if (!isWithin(hour, 0, WEEK - 1)) {
            return BAD_VALUE;
        }
        return fleet.frozen.covers(hour) ? 1 : 0;
    }

    public int forecast(int change) {
        Change found = fleet.find(change);
        if (found == null) {
            return BAD_INDEX;
        }
        // Hours alone never move these two, so there is nothing to try out.
        if (found.state == PLANNED || found.state == HELD) {
            return NONE;
        }
        trial.copyFrom(fleet);
        for (int hours = 0; hours <= FORECAST_HOURS; hours++) {
            if (trial.isOver(change)) {
                return hours;
            }
            trial.passHour();
        }
        return NONE;
    }

    public int entries() {
        return fleet.log.size;
    }

    public int entry(int entry, int what) {
        if (!isWithin(entry, 0, fleet.log.size - 1)) {
            return BAD_INDEX;
        }
        if (!isWithin(what, 0, ENTRY_NUMBERS - 1)) {
            return BAD_VALUE;
        }
        return fleet.log.number(entry, what);
    }

    public int count(int event, int change) {
        if (!isWithin(event, STAGE_BEGINS, CHANGE_RESUMED)) {
            return BAD_VALUE;
        }
        if (!isWithin(change, ALL_CHANGES, fleet.size - 1)) {
            return BAD_INDEX;
        }
        return fleet.log.countOf(event, change);
    }

    // ---- slots, checksum

    public int save(int slot) {
        if (!isWithin(slot, 0, SLOTS - 1)) {
            return BAD_INDEX;
        }
        slots[slot].copyFrom(fleet);
        isKept[slot] = true;
        return fleet.hour;
    }

    public int restore(int slot) {
        if (!isWithin(slot, 0, SLOTS - 1)) {
            return BAD_INDEX;
        }
        if (!isKept[slot]) {
            return NOT_POSSIBLE;
        }
        fleet.copyFrom(slots[slot]);
        return fleet.hour;
    }

    public long checksum() {
        long sum = 79;
        sum = mix(sum, fleet.hour);
        sum = mix(sum, fleet.size);
        for (int i = 0; i < fleet.size; i++) {
            sum = mixChange(sum, i);
        }
        for (int cell = 0; cell < fleet.cells; cell++) {
            sum = mix(sum, fleet.changesOf(cell));
        }
        sum = mix(sum, fleet.log.size);
        for (int i = 0; i < fleet.log.size; i++) {
            for (int what = 0; what < ENTRY_NUMBERS; what++) {
                sum = mix(sum, fleet.log.number(i, what));
            }
        }
        return sum;
    }

    private long mixChange(long start, int change) {
        long sum = start;
        for (int what = 0; what < CHANGE_NUMBERS; what++) {
            sum = mix(sum, change(change, what));
        }
        for (int what = 0; what < PROBE_NUMBERS; what++) {
            sum = mix(sum, probes(change, what));
        }
        sum = mix(sum, chance(change, false));
        return mix(sum, chance(change, true));
    }

    private static long mix(long sum, long value) {
        return 31 * sum + value;
    }

    private static boolean isWithin(int number, int least, int most) {
        return number >= least && number <= most;
    }

    /** All that save() keeps. */
    private static final class Fleet {
        final Change[] list;
        final FrozenHours frozen;
        final Log log;
        /** A forecast goes on as if no change lacked samples and no chance were bad. */
        final boolean ignoresProbes;
        int size;
        int cells;
        int hour;
        int limit;

        Fleet(boolean ignoresProbes) {
            this.ignoresProbes = ignoresProbes;
            list = new Change[MOST_CHANGES];
            for (int i = 0; i < MOST_CHANGES; i++) {
                list[i] = new Change(i);
            }
            frozen = new FrozenHours();
            log = new Log();
            cells = FIRST_CELLS;
            limit = FIRST_LIMIT;
        }

        void beginAnew(int newCells) {
            cells = newCells;
            size = 0;
            hour = 0;
            frozen.size = 0;
            log.empty();
        }

        void copyFrom(Fleet other) {
            size = other.size;
            cells = other.cells;
            hour = other.hour;
            limit = other.limit;
            frozen.copyFrom(other.frozen);
            log.copyFrom(other.log);
            for (int i = 0; i < size && i < MOST_CHANGES; i++) {
                list[i].copyFrom(other.list[i]);
            }
        }

        Change find(int number) {
            return number >= 0 && number < size && number < MOST_CHANGES ? list[number] : null;
        }

        boolean putChange(boolean risky) {
            if (size < 0 || size >= MOST_CHANGES) {
                return false;
            }
            list[size].makeNew(risky);
            size++;
            return true;
        }

        boolean isCell(int cell) {
            return cell >= 0 && cell < cells;
        }

        int allCells() {
            return (1 << cells) - 1;
        }

        int changesOf(int cell) {
            int set = 0;
            for (int i = 0; i < size && i < MOST_CHANGES; i++) {
                if (list[i].isAt(cell)) {
                    set |= 1 << i;
                }
            }
            return set;
        }

        boolean isOver(int number) {
            Change change = find(number);
            return change != null && (change.state == DONE || change.state == TURNED);
        }

        int takeProbes(int cell, int bad, int good) {
            int takers = 0;
            for (int i = 0; i < size && i < MOST_CHANGES; i++) {
                if (list[i].takesProbes(cell, bad, good)) {
                    takers++;
                }
            }
            return takers;
        }

        int reasonOf(Change change) {
            if (!change.isUnderWay()) {
                return NOT_UNDER_WAY;
            }
            if (change.state == TURNING) {
                return TURNS;
            }
            if (change.state == HELD) {
                return IS_HELD;
            }
            if (change.waitsAt(hour)) {
                return WAITS;
            }
            if (!ignoresProbes && change.lacksSamples(allCells())) {
                return LACKS_SAMPLES;
            }
            if (change.hasFurtherStage() && frozen.covers(hour % WEEK)) {
                return FROZEN;
            }
            return change.begun > 0 ? FREE : reasonBeforeFirstStage(change);
        }

        private int reasonBeforeFirstStage(Change change) {
            if (lacksDone(change.doneFirst)) {
                return IS_AFTER;
            }
            return change.isRisky && meetsOtherRisk(change) ? OTHER_RISK : FREE;
        }

        private boolean lacksDone(int set) {
            for (int i = 0; i < size && i < MOST_CHANGES; i++) {
                if ((set >> i & 1) != 0 && list[i].state != DONE) {
                    return true;
                }
            }
            return false;
        }

        private boolean meetsOtherRisk(Change change) {
            for (int i = 0; i < size && i < MOST_CHANGES; i++) {
                Change other = list[i];
                if (other != change && other.isRisky && other.isUnderWay() && other.begun > 0) {
                    return true;
                }
            }
            return false;
        }

        void become(Change change, int state, int event) {
            change.state = state;
            log.put(hour, change.number, event, NONE);
        }

        void passHour() {
            for (int i = 0; i < size && i < MOST_CHANGES; i++) {
                moveInHour(list[i]);
            }
            hour++;
        }

        private void moveInHour(Change change) {
            if (hasBadChance(change)) {
                become(change, TURNING, CHANGE_TURNING);
            } else if (change.state == TURNING) {
                turnStage(change);
            } else if (change.state == RUNNING && reasonOf(change) == FREE) {
                goOn(change);
            }
        }

        private boolean hasBadChance(Change change) {
            return !ignoresProbes && change.isWatched() && change.begun > 0 && change.tally.isAtMost(limit);
        }

        private void turnStage(Change change) {
            if (change.begun > 0) {
                change.begun--;
                log.put(hour, change.number, STAGE_BACK, change.begun);
            }
            if (change.begun == 0) {
                become(change, TURNED, CHANGE_TURNED);
            }
        }

        private void goOn(Change change) {
            if (change.hasFurtherStage()) {
                log.put(hour, change.number, STAGE_BEGINS, change.begun);
                change.beginStage(hour);
            } else {
                become(change, DONE, CHANGE_DONE);
            }
        }
    }

    /** One change: its plan, and how far it has come. */
    private static final class Change {
        final int number;
        final Plan plan;
        final Tally tally;
        /** Each stage's own time, since turning back makes an earlier stage the latest one again. */
        final int[] begunAt;
        int doneFirst;
        int state;
        int begun;
        boolean isRisky;

        Change(int number) {
            this.number = number;
            plan = new Plan();
            tally = new Tally();
            begunAt = new int[MOST_STAGES];
        }

        void makeNew(boolean risky) {
            isRisky = risky;
            doneFirst = 0;
            state = PLANNED;
            begun = 0;
            plan.size = 0;
            tally.empty();
        }

        void copyFrom(Change other) {
            isRisky = other.isRisky;
            doneFirst = other.doneFirst;
            state = other.state;
            begun = other.begun;
            plan.copyFrom(other.plan);
            tally.copyFrom(other.tally);
            System.arraycopy(other.begunAt, 0, begunAt, 0, MOST_STAGES);
        }

        boolean isUnderWay() {
            return state == RUNNING || state == HELD || state == TURNING;
        }

        /** Only then are its probes counted, and may a bad chance turn it. */
        boolean isWatched() {
            return state == RUNNING || state == HELD;
        }

        boolean hasFurtherStage() {
            return begun < plan.size;
        }

        boolean isAt(int cell) {
            return (plan.cellsOfFirst(begun) >> cell & 1) != 0;
        }

        boolean takesProbes(int cell, int bad, int good) {
            if (!isWatched() || begun == 0) {
                return false;
            }
            return isAt(cell) ? tally.takesTreated(bad, good) : tally.takesControl(bad, good);
        }

        int hoursSinceLatest(int hour) {
            int latest = begun - 1;
            return latest >= 0 && latest < MOST_STAGES ? hour - begunAt[latest] : 0;
        }

        boolean waitsAt(int hour) {
            return begun > 0 && hoursSinceLatest(hour) < plan.number(begun - 1, WAIT);
        }

        boolean lacksSamples(int allCells) {
            if (begun == 0) {
                return false;
            }
            int samples = plan.number(begun - 1, SAMPLES);
            boolean hasControl = plan.cellsOfFirst(begun) != allCells;
            return tally.treated() < samples || hasControl && tally.control() < samples;
        }

        void beginStage(int hour) {
            if (begun >= 0 && begun < MOST_STAGES) {
                begunAt[begun] = hour;
                begun++;
                tally.empty();
            }
        }
    }

    /** The stages of a change, or of the text. */
    private static final class Plan {
        final int[] numbers;
        int size;

        Plan() {
            numbers = new int[MOST_STAGES * STAGE_NUMBERS];
        }

        boolean put(int cells, int wait, int samples) {
            if (size < 0 || size >= MOST_STAGES) {
                return false;
            }
            int row = size * STAGE_NUMBERS;
            numbers[row + CELLS] = cells;
            numbers[row + WAIT] = wait;
            numbers[row + SAMPLES] = samples;
            size++;
            return true;
        }

        int number(int stage, int what) {
            boolean isThere = isWithin(stage, 0, size - 1) && isWithin(what, 0, STAGE_NUMBERS - 1);
            int place = stage * STAGE_NUMBERS + what;
            return isThere && place < numbers.length ? numbers[place] : 0;
        }

        int cellsOfFirst(int stages) {
            int set = 0;
            for (int i = 0; i < stages && i < size && i < MOST_STAGES; i++) {
                set |= numbers[i * STAGE_NUMBERS + CELLS];
            }
            return set;
        }

        void copyFrom(Plan other) {
            size = other.size;
            System.arraycopy(other.numbers, 0, numbers, 0, MOST_STAGES * STAGE_NUMBERS);
        }
    }

    /** The probes of a change, with their chance: hours ask for it far oftener than it changes. */
    private static final class Tally {
        int badTreated;
        int goodTreated;
        int badControl;
        int goodControl;
        long numerator;
        long denominator;

        Tally() {
            numerator = 1;
            denominator = 1;
        }

        void empty() {
            badTreated = 0;
            goodTreated = 0;
            badControl = 0;
            goodControl = 0;
            numerator = 1;
            denominator = 1;
        }

        void copyFrom(Tally other) {
            badTreated = other.badTreated;
            goodTreated = other.goodTreated;
            badControl = other.badControl;
            goodControl = other.goodControl;
            numerator = other.numerator;
            denominator = other.denominator;
        }

        int treated() {
            return badTreated + goodTreated;
        }

        int control() {
            return badControl + goodControl;
        }

        boolean takesTreated(int bad, int good) {
            if (treated() + bad + good > MOST_PROBES) {
                return false;
            }
            badTreated += bad;
            goodTreated += good;
            computeChance();
            return true;
        }

        boolean takesControl(int bad, int good) {
            if (control() + bad + good > MOST_PROBES) {
                return false;
            }
            badControl += bad;
            goodControl += good;
            computeChance();
            return true;
        }

        boolean isAtMost(int thousandths) {
            return numerator * MOST_LIMIT <= thousandths * denominator;
        }

        /** With 50 probes at most, no number of sets comes near the end of a long. */
        private void computeChance() {
            int treated = treated();
            int bad = badTreated + badControl;
            int good = goodTreated + goodControl;
            long ways = 0;
            for (int k = badTreated; k <= treated && k <= bad; k++) {
                ways += setsOf(bad, k) * setsOf(good, treated - k);
            }
            long all = setsOf(bad + good, treated);
            long divisor = commonDivisor(ways, all);
            numerator = ways / divisor;
            denominator = all / divisor;
        }

        private static long setsOf(int things, int taken) {
            int fewer = Math.min(taken, things - taken);
            long sets = fewer < 0 ? 0 : 1;
            for (int i = 1; i <= fewer; i++) {
                sets = sets * (things - fewer + i) / i;
            }
            return sets;
        }

        private static long commonDivisor(long first, long second) {
            long divisor = first;
            long rest = second;
            for (int i = 0; i < MOST_DIVISIONS && rest != 0; i++) {
                long next = divisor % rest;
                divisor = rest;
                rest = next;
            }
            return Math.max(divisor, 1);
        }
    }

    /** Spans of hours of the week. */
    private static final class FrozenHours {
        final int[] from;
        final int[] to;
        int size;

        FrozenHours() {
            from = new int[MOST_SPANS];
            to = new int[MOST_SPANS];
        }

        boolean put(int first, int firstAfter) {
            if (size < 0 || size >= MOST_SPANS) {
                return false;
            }
            from[size] = first;
            to[size] = firstAfter;
            size++;
            return true;
        }

        boolean covers(int hourOfWeek) {
            for (int i = 0; i < size && i < MOST_SPANS; i++) {
                if (hourOfWeek >= from[i] && hourOfWeek < to[i]) {
                    return true;
                }
            }
            return false;
        }

        void copyFrom(FrozenHours other) {
            size = other.size;
            System.arraycopy(other.from, 0, from, 0, MOST_SPANS);
            System.arraycopy(other.to, 0, to, 0, MOST_SPANS);
        }
    }

    /** The latest entries, in a ring, so that the oldest one makes room for the next. */
    private static final class Log {
        final int[] numbers;
        int oldest;
        int size;
        /** All that it ever got, also what it lost again: pass() asks only by how much this grew. */
        int received;

        Log() {
            numbers = new int[MOST_ENTRIES * ENTRY_NUMBERS];
        }

        void empty() {
            oldest = 0;
            size = 0;
        }

        void put(int hour, int change, int event, int stage) {
            if (size >= MOST_ENTRIES) {
                oldest = (oldest + 1) % MOST_ENTRIES;
                size = MOST_ENTRIES - 1;
            }
            int row = placeOf(size, 0);
            size++;
            received++;
            if (isWithin(row, 0, numbers.length - ENTRY_NUMBERS)) {
                numbers[row + ENTRY_TIME] = hour;
                numbers[row + ENTRY_CHANGE] = change;
                numbers[row + ENTRY_EVENT] = event;
                numbers[row + ENTRY_STAGE] = stage;
            }
        }

        int number(int entry, int what) {
            int place = placeOf(entry, what);
            return isWithin(place, 0, numbers.length - 1) ? numbers[place] : 0;
        }

        private int placeOf(int entry, int what) {
            return (oldest + entry) % MOST_ENTRIES * ENTRY_NUMBERS + what;
        }

        int countOf(int event, int change) {
            int found = 0;
            for (int i = 0; i < size && i < MOST_ENTRIES; i++) {
                boolean isAsked = change == ALL_CHANGES || number(i, ENTRY_CHANGE) == change;
                if (isAsked && number(i, ENTRY_EVENT) == event) {
                    found++;
                }
            }
            return found;
        }

        void copyFrom(Log other) {
            oldest = other.oldest;
            size = other.size;
            System.arraycopy(other.numbers, 0, numbers, 0, MOST_ENTRIES * ENTRY_NUMBERS);
        }
    }

    /** The text, and the plan that it tells. */
    private static final class PlanText {
        final byte[] letters;
        final Plan plan;
        int length;
        /** How far the text has been understood: the fault position after a parse that failed. */
        int at;

        PlanText() {
            letters = new byte[MOST_LETTERS];
            plan = new Plan();
        }

        boolean put(int letter) {
            if (length < 0 || length >= MOST_LETTERS) {
                return false;
            }
            letters[length] = (byte) letter;
            length++;
            return true;
        }

        boolean parse(int fleetCells) {
            at = 0;
            plan.size = 0;
            for (int i = 0; i < MOST_STAGES && at < length; i++) {
                if (!parseStage(fleetCells)) {
                    return false;
                }
            }
            return at >= length;
        }

        private boolean parseStage(int fleetCells) {
            int cells = parseCells(fleetCells);
            if (cells == 0 || !skip(':')) {
                return false;
            }
            int wait = parseNumber(MOST_WAIT);
            if (wait < 0 || !skip('/')) {
                return false;
            }
            int samples = parseNumber(MOST_SAMPLES);
            if (samples < 0 || !skip(';')) {
                return false;
            }
            return plan.put(cells, wait, samples);
        }

        private int parseCells(int fleetCells) {
            int taken = plan.cellsOfFirst(MOST_STAGES);
            int cells = 0;
            int least = 0;
            for (int i = 0; i < MOST_CELLS; i++) {
                int cell = digitAt(at);
                if (cell < least || cell >= fleetCells || (taken >> cell & 1) != 0) {
                    break;
                }
                cells |= 1 << cell;
                least = cell + 1;
                at++;
            }
            return cells;
        }

        /** Leaves a number that is out of its range unread, as the fault is at its first digit. */
        private int parseNumber(int most) {
            int number = digitAt(at);
            if (number < 0) {
                return -1;
            }
            int second = number == 0 ? -1 : digitAt(at + 1);
            int digits = second < 0 ? 1 : 2;
            if (second >= 0) {
                number = 10 * number + second;
            }
            if (number > most) {
                return -1;
            }
            at += digits;
            return number;
        }

        private boolean skip(char letter) {
            if (letterAt(at) != letter) {
                return false;
            }
            at++;
            return true;
        }

        private int digitAt(int place) {
            int digit = letterAt(place) - '0';
            return isWithin(digit, 0, 9) ? digit : -1;
        }

        private int letterAt(int place) {
            return isWithin(place, 0, length - 1) && place < MOST_LETTERS ? letters[place] : -1;
        }
    }
}
