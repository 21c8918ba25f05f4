/**
 * Each tool its day: tools that may be used on days of a round, things made by steps that wait for
 * their tools' days, orders of them, and what would be best for them.
 */
public final class ToolDays {
    private static final int LOW = -1000001;
    private static final int BEYOND = 0;
    private static final int FULL = 1;
    private static final int WRONG_KIND = 2;
    private static final int NONE = 3;
    private static final int MISSING = 5;
    private static final int WRONG_SIZE = 6;
    private static final int FINDINGS = 7;

    private static final int PLAN = 0;
    private static final int SOON = 1;
    private static final int ROUNDED = 2;
    private static final int BATCH = 3;
    private static final int WALKED = 4;
    private static final int BEST = 5;
    private static final int LATE = 6;
    private static final int KINDS = 7;

    private static final int TOOL = 0;
    private static final int HOURS = 1;
    private static final int WAIT = 2;
    private static final int STEP_NUMBERS = 3;

    private static final int THING = 0;
    private static final int DUE = 1;
    private static final int WORTH = 2;
    private static final int ORDER_NUMBERS = 3;

    private static final int MOST_ROUND = 12;
    private static final int MOST_NEAR = 11;
    private static final int MOST_DAYS = 4095;
    private static final int MOST_TOOLS = 8;
    private static final int MOST_THINGS = 8;
    private static final int MOST_STEPS = 8;
    private static final int MOST_HOURS = 8;
    private static final int MOST_WAIT = 99;
    private static final int MOST_ORDERS = 5;
    private static final int MOST_DUE = 399;
    private static final int MOST_WORTH = 99;
    private static final int MOST_DAY = 999;
    private static final int MOST_DONE = 400;
    private static final int MOST_BEGIN = 200;
    private static final int MOST_DRAWN = 40;
    private static final int DRAWN_DAYS = 60;
    private static final int TAPE_BYTES = 120;
    private static final int SPOTS = 10;
    private static final int SHEETS = 4;
    private static final int SHEET_NUMBERS = 40;
    private static final int SEQUENCES = 120;

    /** No answer of a question about days, tools or kinds is below 0, so this one tells that there is none. */
    private static final int NOT_ANY = -1;

    private final Town town = new Town();
    private final Town kept = new Town();
    private final Town spare = new Town();
    private final Tape tape = new Tape();
    private final Almanac almanac = new Almanac(town);
    private final Shop shop = new Shop(town, almanac);
    private final TextReader reader = new TextReader(tape, town);
    private final Sheet[] sheets = new Sheet[SHEETS];
    private final int[] findings = new int[FINDINGS];
    private boolean isKept = false;

    public ToolDays() {
        for (int s = 0; s < SHEETS; s++) {
            sheets[s] = new Sheet();
        }
    }

    // ---- the town

    public int feed(int bytes, int n) {
        if (!within(n, 1, 4)) {
            return found(BEYOND);
        }
        if (tape.size + n > TAPE_BYTES) {
            return found(FULL);
        }
        tape.append(bytes, n);
        return tape.size;
    }

    public int wipe() {
        int had = tape.size;
        tape.size = 0;
        return had;
    }

    public int town() {
        // The text is carried out while it is read; a FAULT takes all of it back.
        spare.takeFrom(town);
        int items = reader.readText();
        if (items < 0) {
            town.takeFrom(spare);
        }
        tape.size = 0;
        return items;
    }

    public int round(int n) {
        if (!within(n, 1, MOST_ROUND)) {
            return found(BEYOND);
        }
        int was = town.round;
        town.round = n;
        return was;
    }

    public int near(int v) {
        if (!within(v, -1, MOST_NEAR)) {
            return found(BEYOND);
        }
        int was = town.near;
        town.near = v;
        return was;
    }

    public int tool(int days) {
        if (!within(days, 0, MOST_DAYS)) {
            return found(BEYOND);
        }
        if (town.tools >= MOST_TOOLS) {
            return found(FULL);
        }
        return town.addTool(days);
    }

    public int days(int tool, int days) {
        if (!town.hasTool(tool) || !within(days, 0, MOST_DAYS)) {
            return found(BEYOND);
        }
        int was = town.toolDays[tool];
        town.toolDays[tool] = days;
        return was;
    }

    public int may(int tool, int day) {
        if (!town.hasTool(tool) || !within(day, 0, MOST_DAY)) {
            return found(BEYOND);
        }
        if (almanac.firstDay(tool, day, 0) == day) {
            return 2;
        }
        return town.near >= 0 && almanac.firstDay(tool, day, town.near) == day ? 1 : 0;
    }

    // ---- things

    public int thing(int kind, int tool, int hours) {
        if (!within(kind, 0, KINDS - 1) || !town.hasTool(tool) || !within(hours, 1, MOST_HOURS)) {
            return found(BEYOND);
        }
        if (town.things >= MOST_THINGS) {
            return found(FULL);
        }
        int thing = town.addThing(kind);
        town.addStep(thing, tool, hours, MOST_WAIT);
        return thing;
    }

    public int step(int thing, int tool, int hours, int wait) {
        if (!town.hasThing(thing) || !town.hasTool(tool)
                || !within(hours, 1, MOST_HOURS) || !within(wait, 0, MOST_WAIT)) {
            return found(BEYOND);
        }
        if (town.stepCounts[thing] >= MOST_STEPS) {
            return found(FULL);
        }
        return town.addStep(thing, tool, hours, wait);
    }

    public int thingOf(int thing, int i, int what) {
        if (!town.hasThing(thing)) {
            return found(BEYOND);
        }
        if (i == -1) {
            return town.kinds[thing];
        }
        if (i == -2) {
            return town.stepCounts[thing];
        }
        if (!town.hasStep(thing, i) || !within(what, TOOL, WAIT)) {
            return found(BEYOND);
        }
        return town.stepNumber(thing, i, what);
    }

    public int turn(int thing, int kind) {
        if (!town.hasThing(thing) || !within(kind, 0, KINDS - 1)) {
            return found(BEYOND);
        }
        int was = town.kinds[thing];
        town.kinds[thing] = kind;
        return was;
    }

    public int change(int thing, int i, int what, int v) {
        if (!town.hasStep(thing, i) || !within(what, TOOL, WAIT) || !town.allowsInStep(what, v)) {
            return found(BEYOND);
        }
        int was = town.stepNumber(thing, i, what);
        town.putStepNumber(thing, i, what, v);
        return was;
    }

    // ---- days

    public int next(int thing, int i, int day) {
        if (!town.hasStep(thing, i) || !within(day, 0, MOST_DAY)) {
            return found(BEYOND);
        }
        return dayOrNone(almanac.dayBehind(thing, i, day));
    }

    public int run(int thing, int begin, int i) {
        if (!town.hasStep(thing, i) || !within(begin, 0, MOST_DAY)) {
            return found(BEYOND);
        }
        return dayOrNone(almanac.goThrough(thing, begin) < 0 ? almanac.runDays[i] : NOT_ANY);
    }

    public int spoils(int thing, int begin) {
        if (!town.hasThing(thing) || !within(begin, 0, MOST_DAY)) {
            return found(BEYOND);
        }
        return dayOrNone(almanac.goThrough(thing, begin));
    }

    public int ready(int thing, int day) {
        if (!town.hasThing(thing) || !within(day, 0, MOST_DAY)) {
            return found(BEYOND);
        }
        return dayOrNone(almanac.readyFrom(thing, day));
    }

    public int begun(int thing, int day) {
        if (!town.hasThing(thing) || !within(day, 0, MOST_DAY)) {
            return found(BEYOND);
        }
        return dayOrNone(almanac.begunFrom(thing, day));
    }

    public int latest(int thing, int day) {
        if (!town.hasThing(thing) || !within(day, 0, MOST_DONE)) {
            return found(BEYOND);
        }
        return dayOrNone(almanac.latestFor(thing, day));
    }

    public int waits(int thing, int day) {
        if (!town.hasThing(thing) || !within(day, 0, MOST_DAY)) {
            return found(BEYOND);
        }
        if (almanac.begunFrom(thing, day) < 0) {
            return found(NONE);
        }
        return almanac.longestWait(thing);
    }

    // ---- orders

    public int order(int thing, int due, int worth) {
        if (!town.hasThing(thing) || !within(due, 0, MOST_DUE) || !within(worth, 1, MOST_WORTH)) {
            return found(BEYOND);
        }
        if (town.orders >= MOST_ORDERS) {
            return found(FULL);
        }
        return town.addOrder(thing, due, worth);
    }

    public int orderOf(int order, int what) {
        if (!within(order, 0, town.orders - 1) || !within(what, THING, WORTH)) {
            return found(BEYOND);
        }
        return town.orderNumber(order, what);
    }

    public int clear() {
        int had = town.orders;
        town.orders = 0;
        return had;
    }

    public int taken(int digits, int places, int what) {
        if (!shop.readSequence(digits, places) || !within(what, 0, 2 + town.tools)) {
            return found(BEYOND);
        }
        shop.plotRuns();
        shop.takeInSequence(places);
        switch (what) {
            case 0:
                return shop.worth;
            case 1:
                return shop.inTime;
            case 2:
                return shop.lastDay;
            default:
                return shop.toolHours[what - 3];
        }
    }

    public int best(int what) {
        if (!within(what, 0, 2)) {
            return found(BEYOND);
        }
        shop.plotRuns();
        shop.findBest();
        if (what == 0) {
            return shop.bestWorth;
        }
        return what == 1 ? shop.bestInTime : shop.bestDigits;
    }

    // ---- rounds, tools

    public int most(int thing) {
        if (!town.hasThing(thing)) {
            return found(BEYOND);
        }
        int tool = town.chokingTool(thing);
        return tool < 0 ? 0 : town.mostBy(thing, tool);
    }

    public int chokes(int thing) {
        if (!town.hasThing(thing)) {
            return found(BEYOND);
        }
        return town.chokingTool(thing);
    }

    public int idle(int tools) {
        if (!within(tools, 0, (1 << town.tools) - 1)) {
            return found(BEYOND);
        }
        int used = 0;
        for (int k = 0; k < town.tools; k++) {
            if ((tools >> k & 1) != 0) {
                used |= town.toolDays[k];
            }
        }
        return town.wholeRound() & ~used;
    }

    public int turned(int thing) {
        if (!town.hasThing(thing)) {
            return found(BEYOND);
        }
        int soonest = almanac.readyFrom(thing, 0);
        int answer = 0;
        for (int k = 0; k < town.tools; k++) {
            if (town.hoursWith(thing, k) == 0) {
                continue;
            }
            int was = town.toolDays[k];
            for (int t = 1; t < town.round; t++) {
                town.toolDays[k] = town.goneOn(was, t);
                int day = almanac.readyFrom(thing, 0);
                if (isSooner(day, soonest)) {
                    soonest = day;
                    answer = 100 * k + t;
                }
            }
            town.toolDays[k] = was;
        }
        return answer;
    }

    public int roundFor(int thing, int day) {
        if (!town.hasThing(thing) || !within(day, 0, MOST_DAY)) {
            return found(BEYOND);
        }
        int was = town.round;
        int soonest = NOT_ANY;
        int answer = 0;
        for (int n = 1; n <= MOST_ROUND; n++) {
            town.round = n;
            int done = almanac.readyFrom(thing, day);
            if (isSooner(done, soonest)) {
                soonest = done;
                answer = n;
            }
        }
        town.round = was;
        return soonest < 0 ? found(NONE) : answer;
    }

    public int nearFor(int thing, int day) {
        if (!town.hasThing(thing) || !within(day, 0, MOST_DAY)) {
            return found(BEYOND);
        }
        int was = town.near;
        int soonest = NOT_ANY;
        int answer = -1;
        for (int v = -1; v <= MOST_NEAR; v++) {
            town.near = v;
            int done = almanac.readyFrom(thing, day);
            if (isSooner(done, soonest)) {
                soonest = done;
                answer = v;
            }
        }
        town.near = was;
        return soonest < 0 ? found(NONE) : answer;
    }

    public int chance(int thing, int n) {
        if (!town.hasThing(thing) || !within(n, 1, MOST_DRAWN)) {
            return found(BEYOND);
        }
        int good = 0;
        for (int k = 0; k < n; k++) {
            if (almanac.goThrough(thing, town.draw() % DRAWN_DAYS) < 0) {
                good++;
            }
        }
        return good;
    }

    public int seed(int v) {
        int was = town.z;
        town.z = v;
        return was;
    }

    // ---- spots, sheets

    public int hold(int spot, int thing) {
        if (!within(spot, 0, SPOTS - 1) || !within(thing, -1, town.things - 1)) {
            return found(BEYOND);
        }
        town.spots[spot] = thing;
        return 1;
    }

    public int as(int spot, int kind) {
        if (!within(spot, 0, SPOTS - 1) || !within(kind, 0, KINDS - 1)) {
            return found(BEYOND);
        }
        int thing = town.spots[spot];
        if (!town.hasThing(thing)) {
            return found(MISSING);
        }
        if (!isUnder(town.kinds[thing], kind)) {
            return found(WRONG_KIND);
        }
        return thing;
    }

    public int sheet(int s, int bits, int n) {
        if (!isSheet(s) || (bits != 0 && bits != 8 && bits != 16 && bits != 32)) {
            return found(BEYOND);
        }
        if (n < 0) {
            return found(WRONG_SIZE);
        }
        if (n > SHEET_NUMBERS) {
            return found(BEYOND);
        }
        sheets[s].layOut(bits, n);
        return sheets[s].size;
    }

    public int write(int s, int i, int v) {
        if (!isSheet(s)) {
            return found(BEYOND);
        }
        if (sheets[s].bits == 0) {
            return found(MISSING);
        }
        if (!within(i, 0, sheets[s].size - 1)) {
            return found(BEYOND);
        }
        sheets[s].put(i, v);
        return 1;
    }

    public int copy(int s, int from, int t, int to, int n) {
        if (!isSheet(s) || !isSheet(t)) {
            return found(BEYOND);
        }
        if (sheets[s].bits == 0 || sheets[t].bits == 0) {
            return found(MISSING);
        }
        if (sheets[s].bits != sheets[t].bits) {
            return found(WRONG_KIND);
        }
        if (!sheets[s].hasStretch(from, n) || !sheets[t].hasStretch(to, n)) {
            return found(BEYOND);
        }
        System.arraycopy(sheets[s].numbers, from, sheets[t].numbers, to, n);
        return n;
    }

    public int load(int s) {
        if (!isSheet(s)) {
            return found(BEYOND);
        }
        Sheet sheet = sheets[s];
        if (sheet.bits == 0) {
            return found(MISSING);
        }
        int came = 0;
        while (came < sheet.size && came < town.tools && within(sheet.numbers[came], 0, MOST_DAYS)) {
            town.toolDays[came] = sheet.numbers[came];
            came++;
        }
        return came;
    }

    public int judge(int s, int thing) {
        if (!isSheet(s)) {
            return found(BEYOND);
        }
        if (sheets[s].bits == 0) {
            return found(MISSING);
        }
        if (!town.hasThing(thing)) {
            return found(BEYOND);
        }
        int steps = town.stepCounts[thing];
        int right = almanac.rightDays(thing, sheets[s]);
        return right == steps && sheets[s].size == steps ? 0 : right + 1;
    }

    // ---- images

    public int image() {
        kept.takeFrom(town);
        isKept = true;
        return 1;
    }

    public int undo() {
        if (!isKept) {
            return found(NONE);
        }
        town.takeFrom(kept);
        return town.things;
    }

    public int tear() {
        int was = isKept ? 1 : 0;
        isKept = false;
        return was;
    }

    public int count(int what) {
        switch (what) {
            case 0:
                return town.round;
            case 1:
                return town.near;
            case 2:
                return town.tools;
            case 3:
                return town.things;
            case 4:
                return town.orders;
            case 5:
                return tape.size;
            case 6:
                return town.z;
            case 7:
                return town.heldSpots();
            default:
                return found(BEYOND);
        }
    }

    public int status(int which) {
        if (!within(which, -1, FINDINGS - 1)) {
            return found(BEYOND);
        }
        if (which >= 0) {
            return findings[which];
        }
        int all = 0;
        for (int k = 0; k < FINDINGS; k++) {
            all += findings[k];
        }
        return all;
    }

    // ---- what the calls share

    private int found(int finding) {
        if (within(finding, 0, FINDINGS - 1)) {
            findings[finding]++;
        }
        return LOW - finding;
    }

    private int dayOrNone(int day) {
        return day < 0 ? found(NONE) : day;
    }

    private static boolean within(int v, int least, int most) {
        return v >= least && v <= most;
    }

    private static boolean isSheet(int s) {
        return within(s, 0, SHEETS - 1);
    }

    private static boolean isSooner(int day, int soonest) {
        return day >= 0 && (soonest < 0 || day < soonest);
    }

    private static boolean isUnder(int kind, int upper) {
        int k = kind;
        for (int level = 0; level < KINDS && k != upper && k >= 0; level++) {
            k = kindAbove(k);
        }
        return k == upper;
    }

    private static int kindAbove(int kind) {
        switch (kind) {
            case SOON:
            case ROUNDED:
            case BATCH:
                return PLAN;
            case WALKED:
                return SOON;
            case BEST:
                return WALKED;
            case LATE:
                return BATCH;
            default:
                return NOT_ANY;
        }
    }

    /** All that an image keeps. */
    private static final class Town {
        int round = 7;
        int near = -1;
        int z = 1;
        int tools = 0;
        int things = 0;
        int orders = 0;
        final int[] toolDays = new int[MOST_TOOLS];
        final int[] kinds = new int[MOST_THINGS];
        final int[] stepCounts = new int[MOST_THINGS];
        final int[] stepNumbers = new int[MOST_THINGS * MOST_STEPS * STEP_NUMBERS];
        final int[] orderNumbers = new int[MOST_ORDERS * ORDER_NUMBERS];
        final int[] spots = new int[SPOTS];

        Town() {
            for (int k = 0; k < SPOTS; k++) {
                spots[k] = -1;
            }
        }

        void takeFrom(Town other) {
            round = other.round;
            near = other.near;
            z = other.z;
            tools = other.tools;
            things = other.things;
            orders = other.orders;
            System.arraycopy(other.toolDays, 0, toolDays, 0, MOST_TOOLS);
            System.arraycopy(other.kinds, 0, kinds, 0, MOST_THINGS);
            System.arraycopy(other.stepCounts, 0, stepCounts, 0, MOST_THINGS);
            System.arraycopy(other.stepNumbers, 0, stepNumbers, 0, MOST_THINGS * MOST_STEPS * STEP_NUMBERS);
            System.arraycopy(other.orderNumbers, 0, orderNumbers, 0, MOST_ORDERS * ORDER_NUMBERS);
            System.arraycopy(other.spots, 0, spots, 0, SPOTS);
        }

        boolean hasTool(int tool) {
            return within(tool, 0, tools - 1);
        }

        boolean hasThing(int thing) {
            return within(thing, 0, things - 1);
        }

        boolean hasStep(int thing, int i) {
            return hasThing(thing) && within(i, 0, stepCounts[thing] - 1);
        }

        boolean allowsInStep(int what, int v) {
            switch (what) {
                case TOOL:
                    return hasTool(v);
                case HOURS:
                    return within(v, 1, MOST_HOURS);
                default:
                    return within(v, 0, MOST_WAIT);
            }
        }

        int addTool(int days) {
            if (tools >= MOST_TOOLS) {
                return NOT_ANY;
            }
            toolDays[tools] = days;
            tools++;
            return tools - 1;
        }

        int addThing(int kind) {
            if (things >= MOST_THINGS) {
                return NOT_ANY;
            }
            kinds[things] = kind;
            stepCounts[things] = 0;
            things++;
            return things - 1;
        }

        int addStep(int thing, int tool, int hours, int wait) {
            if (!hasThing(thing) || stepCounts[thing] >= MOST_STEPS) {
                return NOT_ANY;
            }
            int i = stepCounts[thing];
            putStepNumber(thing, i, TOOL, tool);
            putStepNumber(thing, i, HOURS, hours);
            putStepNumber(thing, i, WAIT, wait);
            stepCounts[thing] = i + 1;
            return i + 1;
        }

        int addOrder(int thing, int due, int worthOfIt) {
            if (orders >= MOST_ORDERS) {
                return NOT_ANY;
            }
            int at = orders * ORDER_NUMBERS;
            orderNumbers[at + THING] = thing;
            orderNumbers[at + DUE] = due;
            orderNumbers[at + WORTH] = worthOfIt;
            orders++;
            return orders - 1;
        }

        int stepNumber(int thing, int i, int what) {
            return stepNumbers[(thing * MOST_STEPS + i) * STEP_NUMBERS + what];
        }

        void putStepNumber(int thing, int i, int what, int v) {
            stepNumbers[(thing * MOST_STEPS + i) * STEP_NUMBERS + what] = v;
        }

        int orderNumber(int order, int what) {
            return orderNumbers[order * ORDER_NUMBERS + what];
        }

        int wholeRound() {
            return (1 << round) - 1;
        }

        /** A set of days gone on by t (1 to the round less 1) within the round. */
        int goneOn(int set, int t) {
            int inRound = set & wholeRound();
            return (inRound << t | inRound >> (round - t)) & wholeRound();
        }

        int hoursWith(int thing, int tool) {
            int hours = 0;
            for (int i = 0; i < stepCounts[thing]; i++) {
                if (stepNumber(thing, i, TOOL) == tool) {
                    hours += stepNumber(thing, i, HOURS);
                }
            }
            return hours;
        }

        /** How many of a thing a tool that it needs lets come in a round. */
        int mostBy(int thing, int tool) {
            int hours = hoursWith(thing, tool);
            if (hours <= 0) {
                return 0;
            }
            return MOST_HOURS * Integer.bitCount(toolDays[tool] & wholeRound()) / hours;
        }

        int chokingTool(int thing) {
            int choking = NOT_ANY;
            int least = 0;
            for (int k = 0; k < tools; k++) {
                if (hoursWith(thing, k) == 0) {
                    continue;
                }
                int come = mostBy(thing, k);
                if (choking < 0 || come < least) {
                    choking = k;
                    least = come;
                }
            }
            return choking;
        }

        int heldSpots() {
            int held = 0;
            for (int k = 0; k < SPOTS; k++) {
                if (spots[k] >= 0) {
                    held++;
                }
            }
            return held;
        }

        int draw() {
            z = z * 1103515245 + 12345;
            return z >>> 8;
        }
    }

    /**
     * Looks days up. Whatever is asked of a day depends on its place in the round alone, so a day that
     * is not found within one round (at most 12 days, far below 60) is not found later either, and a run
     * from a begin one round later is the same run, one round later.
     */
    private static final class Almanac {
        private final Town town;
        /** The days of the run that was gone through last. */
        final int[] runDays = new int[MOST_STEPS];

        Almanac(Town town) {
            this.town = town;
        }

        /** The first day from one on which a tool may be used some days later (0: on it). */
        int firstDay(int tool, int from, int later) {
            int set = town.toolDays[tool];
            int length = town.round;
            if (set == 0 || length < 1) {
                return NOT_ANY;
            }
            int place = (from + later) % length;
            for (int ahead = 0; ahead < length; ahead++) {
                if ((set >> place & 1) != 0) {
                    return from + ahead;
                }
                place = place + 1 == length ? 0 : place + 1;
            }
            return NOT_ANY;
        }

        private int zeroFrom(int from) {
            if (town.round < 1) {
                return NOT_ANY;
            }
            int place = from % town.round;
            return place == 0 ? from : from + town.round - place;
        }

        /** NEXT of step i behind a day. */
        int dayBehind(int thing, int i, int day) {
            int tool = town.stepNumber(thing, i, TOOL);
            switch (town.kinds[thing]) {
                case SOON:
                    return firstDay(tool, day, 0);
                case ROUNDED:
                    return i == 0 ? firstDay(tool, zeroFrom(day), 0) : plannedFrom(tool, i, day);
                case BATCH:
                    return i > 0 && town.stepNumber(thing, i - 1, TOOL) == tool ? day : plannedFrom(tool, i, day);
                case WALKED:
                    return walkedFrom(tool, day);
                case BEST:
                    return bestOf(walkedFrom(tool, day), day, i == town.stepCounts[thing] - 1);
                case LATE:
                    return plannedFrom(tool, i, i == 0 ? day : day + 1);
                default:
                    return plannedFrom(tool, i, day);
            }
        }

        private int plannedFrom(int tool, int i, int day) {
            return firstDay(tool, i == 0 ? day : day + 1, 0);
        }

        private int walkedFrom(int tool, int day) {
            int here = firstDay(tool, day, 0);
            if (town.near < 0) {
                return here;
            }
            // A tool that has a day here has one there as well, so there are both or neither.
            return Math.min(here, firstDay(tool, day + 1, town.near));
        }

        /** Day 0 of the round needs no tool's day, so it also stands where a walked step would have none. */
        private int bestOf(int walked, int day, boolean isLast) {
            int zero = zeroFrom(day);
            return isLast && isSooner(zero, walked) ? zero : walked;
        }

        /** Fills runDays; answers the step at which the run spoils, below 0 if it doesn't. */
        int goThrough(int thing, int begin) {
            int ahead = begin;
            int steps = town.stepCounts[thing];
            for (int i = 0; i < steps; i++) {
                int day = dayBehind(thing, i, ahead);
                if (day < 0 || (i > 0 && day - ahead > town.stepNumber(thing, i, WAIT))) {
                    return i;
                }
                runDays[i] = day;
                ahead = day;
            }
            return NOT_ANY;
        }

        int lastRunDay(int thing) {
            int steps = town.stepCounts[thing];
            return steps < 1 ? NOT_ANY : runDays[steps - 1];
        }

        int begunFrom(int thing, int day) {
            for (int begin = day; begin < day + town.round; begin++) {
                if (goThrough(thing, begin) < 0) {
                    return begin;
                }
            }
            return NOT_ANY;
        }

        int readyFrom(int thing, int day) {
            return begunFrom(thing, day) < 0 ? NOT_ANY : lastRunDay(thing);
        }

        int latestFor(int thing, int day) {
            for (int begin = day; begin >= 0; begin--) {
                if (goThrough(thing, begin) < 0 && lastRunDay(thing) <= day) {
                    return begin;
                }
            }
            return NOT_ANY;
        }

        int longestWait(int thing) {
            int longest = 0;
            for (int i = 1; i < town.stepCounts[thing]; i++) {
                longest = Math.max(longest, runDays[i] - runDays[i - 1]);
            }
            return longest;
        }

        /** How many numbers of a sheet, from the first on, are days of a thing's steps in one run. */
        int rightDays(int thing, Sheet sheet) {
            int most = Math.min(sheet.size, town.stepCounts[thing]);
            for (int i = 0; i < most; i++) {
                int day = sheet.numbers[i];
                // A number below 0 could be taken for the NEXT that there isn't.
                if (day < 0 || (i == 0 && day > MOST_DAY)) {
                    return i;
                }
                int ahead = i == 0 ? day : sheet.numbers[i - 1];
                if (dayBehind(thing, i, ahead) != day) {
                    return i;
                }
                if (i > 0 && day - ahead > town.stepNumber(thing, i, WAIT)) {
                    return i;
                }
            }
            return most;
        }
    }

    /** Takes orders one by one, and keeps account of the hours that tools have on days by then. */
    private static final class Shop {
        private static final int DAYS = MOST_DUE + 1;

        private final Town town;
        private final Almanac almanac;
        /** Which runs of orders don't spoil and fit a tool's day, and their days, for each begin within one round. */
        private final boolean[] isGood = new boolean[MOST_ORDERS * MOST_ROUND];
        private final int[] plotted = new int[MOST_ORDERS * MOST_ROUND * MOST_STEPS];
        private final int[] hoursOn = new int[MOST_TOOLS * DAYS];
        /** The places of hoursOn that are in use, so that few have to be emptied. */
        private final int[] inUse = new int[MOST_ORDERS * MOST_STEPS];
        private int uses = 0;
        private final int[] sequence = new int[MOST_ORDERS];
        final int[] toolHours = new int[MOST_TOOLS];
        int worth = 0;
        int inTime = 0;
        int lastDay = -1;
        int bestWorth = 0;
        int bestInTime = 0;
        int bestDigits = 0;

        Shop(Town town, Almanac almanac) {
            this.town = town;
            this.almanac = almanac;
        }

        /** Whether digits tell a sequence of orders, which is kept then. */
        boolean readSequence(int digits, int places) {
            if (digits < 0 || !within(places, 0, MOST_ORDERS)) {
                return false;
            }
            int rest = digits;
            int seen = 0;
            for (int p = places - 1; p >= 0; p--) {
                int order = rest % 10;
                if (order >= town.orders || (seen >> order & 1) != 0) {
                    return false;
                }
                seen |= 1 << order;
                sequence[p] = order;
                rest /= 10;
            }
            return rest == 0;
        }

        /** Stands ahead of taking orders, as things, tools and the round may have changed. */
        void plotRuns() {
            forget();
            for (int order = 0; order < town.orders; order++) {
                int thing = town.orderNumber(order, THING);
                for (int begin = 0; begin < town.round; begin++) {
                    int row = order * MOST_ROUND + begin;
                    boolean spoils = almanac.goThrough(thing, begin) >= 0;
                    System.arraycopy(almanac.runDays, 0, plotted, row * MOST_STEPS, MOST_STEPS);
                    // A run that finds too few hours where nothing is taken yet finds them nowhere.
                    isGood[row] = !spoils && hasHours(order, row, 0);
                }
            }
        }

        void takeInSequence(int places) {
            forget();
            for (int p = 0; p < places; p++) {
                int order = sequence[p];
                int done = make(order);
                if (done >= 0) {
                    worth += town.orderNumber(order, WORTH);
                    inTime |= 1 << order;
                    lastDay = Math.max(lastDay, done);
                }
            }
        }

        private void forget() {
            for (int k = 0; k < uses; k++) {
                hoursOn[inUse[k]] = 0;
            }
            uses = 0;
            for (int k = 0; k < MOST_TOOLS; k++) {
                toolHours[k] = 0;
            }
            worth = 0;
            inTime = 0;
            lastDay = -1;
        }

        /** The day on which an order's last step is done, below 0 if it isn't made. */
        private int make(int order) {
            int last = town.stepCounts[town.orderNumber(order, THING)] - 1;
            int place = 0;
            for (int begin = 0; begin <= MOST_BEGIN; begin++) {
                int row = order * MOST_ROUND + place;
                int shift = begin - place;
                place = place + 1 == town.round ? 0 : place + 1;
                if (!isGood[row]) {
                    continue;
                }
                int done = plotted[row * MOST_STEPS + last] + shift;
                if (done > MOST_DUE || !hasHours(order, row, shift)) {
                    continue;
                }
                if (done > town.orderNumber(order, DUE)) {
                    return NOT_ANY;
                }
                takeHours(order, row, shift);
                return done;
            }
            return NOT_ANY;
        }

        private boolean hasHours(int order, int row, int shift) {
            int thing = town.orderNumber(order, THING);
            for (int i = 0; i < town.stepCounts[thing]; i++) {
                int at = placeOf(thing, i, row, shift);
                int hours = hoursOn[at];
                for (int j = 0; j <= i; j++) {
                    if (placeOf(thing, j, row, shift) == at) {
                        hours += town.stepNumber(thing, j, HOURS);
                    }
                }
                if (hours > MOST_HOURS) {
                    return false;
                }
            }
            return true;
        }

        private void takeHours(int order, int row, int shift) {
            int thing = town.orderNumber(order, THING);
            for (int i = 0; i < town.stepCounts[thing]; i++) {
                int at = placeOf(thing, i, row, shift);
                int hours = town.stepNumber(thing, i, HOURS);
                hoursOn[at] += hours;
                toolHours[town.stepNumber(thing, i, TOOL)] += hours;
                inUse[uses] = at;
                uses++;
            }
        }

        private int placeOf(int thing, int i, int row, int shift) {
            return town.stepNumber(thing, i, TOOL) * DAYS + plotted[row * MOST_STEPS + i] + shift;
        }

        void findBest() {
            for (int k = 0; k < town.orders; k++) {
                sequence[k] = k;
            }
            bestWorth = -1;
            int all = allWorths();
            for (int n = 0; n < SEQUENCES; n++) {
                takeInSequence(town.orders);
                if (worth > bestWorth) {
                    bestWorth = worth;
                    bestInTime = inTime;
                    bestDigits = sequenceDigits();
                }
                // Sequences come the first one first, so an equal one that comes later is never the best.
                if (bestWorth == all || !goToNextSequence()) {
                    break;
                }
            }
        }

        private int allWorths() {
            int all = 0;
            for (int k = 0; k < town.orders; k++) {
                all += town.orderNumber(k, WORTH);
            }
            return all;
        }

        private int sequenceDigits() {
            int digits = 0;
            for (int k = 0; k < town.orders; k++) {
                digits = digits * 10 + sequence[k];
            }
            return digits;
        }

        private boolean goToNextSequence() {
            int rise = town.orders - 2;
            while (rise >= 0 && sequence[rise] > sequence[rise + 1]) {
                rise--;
            }
            if (rise < 0) {
                return false;
            }
            int above = town.orders - 1;
            while (above > rise && sequence[above] < sequence[rise]) {
                above--;
            }
            swap(rise, above);
            int low = rise + 1;
            int high = town.orders - 1;
            while (low < high) {
                swap(low, high);
                low++;
                high--;
            }
            return true;
        }

        private void swap(int one, int other) {
            int was = sequence[one];
            sequence[one] = sequence[other];
            sequence[other] = was;
        }
    }

    private static final class Tape {
        final int[] bytes = new int[TAPE_BYTES];
        int size = 0;

        void append(int number, int n) {
            for (int k = n - 1; k >= 0 && size < TAPE_BYTES; k--) {
                bytes[size] = number >>> (8 * k) & 255;
                size++;
            }
        }
    }

    /** Reads a text from the tape token by token, and does to the town what each item tells. */
    private static final class TextReader {
        private static final int END = 0;
        private static final int WORD = 1;
        private static final int NUMBER = 2;
        private static final int SEMICOLON = 3;
        private static final int COMMA = 4;
        private static final int NO_TOKEN = 5;
        private static final int MOST_NUMBER = 999;

        private final Tape tape;
        private final Town town;
        private int token = END;
        private int start = 0;
        private int end = 0;
        private int value = 0;

        TextReader(Tape tape, Town town) {
            this.tape = tape;
            this.town = town;
        }

        /** How many items there are, or -1 less the fault: the token at which the reading stopped. */
        int readText() {
            end = 0;
            int items = 0;
            for (int k = 0; k <= TAPE_BYTES; k++) {
                goOn();
                if (!readItem()) {
                    return -1 - start;
                }
                items++;
                if (token == END) {
                    return items;
                }
                if (token != SEMICOLON) {
                    return -1 - start;
                }
            }
            return -1 - start;
        }

        private boolean readItem() {
            if (token != WORD) {
                return false;
            }
            if (isWord("round")) {
                return readRound();
            }
            if (isWord("near")) {
                return readNear();
            }
            if (isWord("tool")) {
                return readTool();
            }
            if (isWord("order")) {
                return readOrder();
            }
            return readThing(kindOfWord());
        }

        private boolean readRound() {
            goOn();
            if (!isNumber(1, MOST_ROUND)) {
                return false;
            }
            town.round = value;
            goOn();
            return true;
        }

        private boolean readNear() {
            goOn();
            if (!isNumber(0, MOST_NEAR)) {
                return false;
            }
            town.near = value;
            goOn();
            return true;
        }

        private boolean readTool() {
            if (town.tools >= MOST_TOOLS) {
                return false;
            }
            goOn();
            int set = 0;
            int least = 0;
            for (int k = 0; k < MOST_ROUND && token == NUMBER; k++) {
                if (!isNumber(least, MOST_ROUND - 1)) {
                    return false;
                }
                set |= 1 << value;
                least = value + 1;
                goOn();
            }
            town.addTool(set);
            return true;
        }

        private boolean readThing(int kind) {
            if (kind < 0 || town.things >= MOST_THINGS) {
                return false;
            }
            int thing = town.addThing(kind);
            for (int i = 0; i < MOST_STEPS; i++) {
                goOn();
                if (!readStep(thing)) {
                    return false;
                }
                if (token != COMMA) {
                    return true;
                }
            }
            return false;
        }

        private boolean readStep(int thing) {
            if (!isNumber(0, town.tools - 1)) {
                return false;
            }
            int tool = value;
            goOn();
            if (!isNumber(1, MOST_HOURS)) {
                return false;
            }
            int hours = value;
            goOn();
            int wait = MOST_WAIT;
            if (isWord("wait")) {
                goOn();
                if (!isNumber(0, MOST_WAIT)) {
                    return false;
                }
                wait = value;
                goOn();
            }
            town.addStep(thing, tool, hours, wait);
            return true;
        }

        private boolean readOrder() {
            if (town.orders >= MOST_ORDERS) {
                return false;
            }
            goOn();
            if (!isNumber(0, town.things - 1)) {
                return false;
            }
            int thing = value;
            goOn();
            if (!readBehindWord("due", 0, MOST_DUE)) {
                return false;
            }
            int due = value;
            goOn();
            if (!readBehindWord("worth", 1, MOST_WORTH)) {
                return false;
            }
            town.addOrder(thing, due, value);
            goOn();
            return true;
        }

        private boolean readBehindWord(String word, int least, int most) {
            if (!isWord(word)) {
                return false;
            }
            goOn();
            return isNumber(least, most);
        }

        private boolean isNumber(int least, int most) {
            return token == NUMBER && within(value, least, most);
        }

        private boolean isWord(String word) {
            if (token != WORD || word.length() != end - start) {
                return false;
            }
            for (int k = 0; k < word.length(); k++) {
                if (tape.bytes[start + k] != word.charAt(k)) {
                    return false;
                }
            }
            return true;
        }

        private int kindOfWord() {
            for (int kind = 0; kind < KINDS; kind++) {
                if (isWord(nameOfKind(kind))) {
                    return kind;
                }
            }
            return NOT_ANY;
        }

        private static String nameOfKind(int kind) {
            switch (kind) {
                case SOON:
                    return "soon";
                case ROUNDED:
                    return "rounded";
                case BATCH:
                    return "batch";
                case WALKED:
                    return "walked";
                case BEST:
                    return "best";
                case LATE:
                    return "late";
                default:
                    return "plan";
            }
        }

        /** Goes on to the token behind the one at hand. */
        private void goOn() {
            start = end;
            while (start < tape.size && tape.bytes[start] == ' ') {
                start++;
            }
            end = start;
            token = tokenAt(start);
            if (token != END) {
                end++;
            }
            if (token == WORD || token == NUMBER) {
                while (end < tape.size && tokenAt(end) == token) {
                    end++;
                }
            }
            value = token == NUMBER ? numberAtHand() : 0;
        }

        /** What the byte at a place begins, or is a part of. */
        private int tokenAt(int at) {
            if (at < 0 || at >= tape.size) {
                return END;
            }
            int sign = tape.bytes[at];
            if (sign >= 'a' && sign <= 'z') {
                return WORD;
            }
            if (sign >= '0' && sign <= '9') {
                return NUMBER;
            }
            if (sign == ';') {
                return SEMICOLON;
            }
            return sign == ',' ? COMMA : NO_TOKEN;
        }

        /** A number that is too great already needs no more digits, which could wrap it around. */
        private int numberAtHand() {
            int number = 0;
            for (int at = start; at < end && number <= MOST_NUMBER; at++) {
                number = number * 10 + tape.bytes[at] - '0';
            }
            return number;
        }
    }

    /** A row of numbers; one of 0 bits is missing. */
    private static final class Sheet {
        int bits = 0;
        int size = 0;
        final int[] numbers = new int[SHEET_NUMBERS];

        void layOut(int newBits, int n) {
            bits = newBits;
            size = newBits == 0 ? 0 : n;
            for (int k = 0; k < SHEET_NUMBERS; k++) {
                numbers[k] = 0;
            }
        }

        void put(int i, int v) {
            // Shifted up and down again, the lowest bits keep their sign.
            int over = 32 - bits;
            numbers[i] = v << over >> over;
        }

        boolean hasStretch(int from, int n) {
            return from >= 0 && n >= 0 && from <= size && n <= size - from;
        }
    }
}
