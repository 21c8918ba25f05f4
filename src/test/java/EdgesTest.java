import java.lang.reflect.Method;
import java.nio.file.Files;
import java.nio.file.Path;
import java.util.ArrayList;
import java.util.List;
import java.util.function.ToIntFunction;

/**
 * Each sentence of the document that names a boundary case, with a test of its own. The sentence is
 * quoted ahead of its calls, and has to stand in ../shared/DOC.md as it is quoted. Tests of the terms
 * come first, then those of promise 1 to 46.
 */
public final class EdgesTest {
    private static final int BEYOND = -1000001;
    private static final int FULL = -1000002;
    private static final int KIND = -1000003;
    private static final int NONE = -1000004;
    private static final int MISSING = -1000006;
    private static final int SIZE = -1000007;
    private static final int MIN = Integer.MIN_VALUE;
    private static final int MAX = Integer.MAX_VALUE;

    private static final int PLAN = 0;
    private static final int SOON = 1;
    private static final int ROUNDED = 2;
    private static final int BATCH = 3;
    private static final int WALKED = 4;
    private static final int BEST = 5;
    private static final int LATE = 6;

    private static String document = "";
    private static String sentence = "";
    private static final List<Integer> promises = new ArrayList<>();
    private static int sentences = 0;
    private static int asked = 0;
    private static int wrong = 0;

    /** The calls behind this one test these words of the document. */
    private static void of(String words) {
        sentence = words;
        sentences++;
        if (!document.contains(words)) {
            fault("is not in the document");
        }
    }

    /** The same for words under the heading of a promise. */
    private static void of(int number, String words) {
        of(words);
        promises.add(number);
        String head = "## Promise " + number + ": ";
        int begin = document.indexOf(head);
        int end = document.indexOf("\n## ", begin + 1);
        if (begin < 0 || !document.substring(begin, end < 0 ? document.length() : end).contains(words)) {
            fault("is not under promise " + number);
        }
    }

    private static void fault(String told) {
        wrong++;
        System.out.println("\"" + sentence + "\": " + told);
    }

    private static void due(String call, int got, int want) {
        asked++;
        if (got != want) {
            fault(call + " answered " + got + ", due is " + want);
        }
    }

    private static int read(ToolDays x, String text) {
        for (int k = 0; k < text.length(); k++) {
            x.feed(text.charAt(k), 1);
        }
        return x.town();
    }

    /** A town that texts tell. */
    private static ToolDays from(String... texts) {
        ToolDays x = new ToolDays();
        for (String text : texts) {
            if (read(x, text) < 1) {
                fault("the text '" + text + "' has a fault");
            }
        }
        return x;
    }

    private static int set(int... members) {
        int bits = 0;
        for (int m : members) {
            bits |= 1 << m;
        }
        return bits;
    }

    private static int repeat(int times, ToolDays x, ToIntFunction<ToolDays> act) {
        int last = 0;
        for (int k = 0; k < times; k++) {
            last = act.applyAsInt(x);
        }
        return last;
    }

    /** Whether a fault is where it should be; the text stands alone in a new object. */
    private static void faulty(String text, int place) {
        due("town() of '" + text + "'", read(new ToolDays(), text), -1 - place);
    }

    /** The same, behind a text that makes 2 tools and a thing. */
    private static void faultyBehind(String text, int place) {
        due("town() of '" + text + "'", read(from("tool 0;tool 1;plan 0 1"), text), -1 - place);
    }

    private static void fine(String text, int items) {
        due("town() of '" + text + "'", read(new ToolDays(), text), items);
    }

    // ---- what a refused call leaves as it was

    /** A town in which all of an object's parts hold something: 3 tools, 2 things, 2 orders, spot 1, sheets 0 to 2. */
    private static ToolDays rich() {
        ToolDays x = from("round 9;near 4;tool 1 8 11;tool 3;tool;soon 0 2,1 3 wait 98;plan 2 1");
        read(x, "order 0 due 20 worth 30;order 1 due 40 worth 50");
        x.seed(-77);
        x.hold(1, 1);
        x.image();
        x.sheet(0, 16, 3);
        x.write(0, 0, 5);
        x.write(0, 1, 6);
        x.write(0, 2, 7);
        x.sheet(1, 8, 0);
        x.sheet(2, 16, 2);
        feedAll(x, "round 3");
        return x;
    }

    /** Feeds a text and leaves it on the tape. */
    private static void feedAll(ToolDays x, String text) {
        for (int k = 0; k < text.length(); k++) {
            x.feed(text.charAt(k), 1);
        }
    }

    /** All that can be seen of an object, but status(). The object isn't used again. */
    private static String look(ToolDays x) {
        StringBuilder seen = new StringBuilder();
        for (int k = 0; k < 8; k++) {
            seen.append(x.count(k)).append(' ');
        }
        for (int k = 0; k < 8; k++) {
            for (int i = -2; i < 8; i++) {
                seen.append(x.thingOf(k, i, 0)).append(' ').append(x.thingOf(k, i, 1)).append(' ').append(x.thingOf(k, i, 2)).append(' ');
            }
        }
        for (int k = 0; k < 5; k++) {
            seen.append(x.orderOf(k, 0)).append(' ').append(x.orderOf(k, 1)).append(' ').append(x.orderOf(k, 2)).append(' ');
        }
        for (int k = 0; k < 10; k++) {
            seen.append(x.as(k, 0)).append(' ');
        }
        for (int k = 0; k < 8; k++) {
            seen.append(x.days(k, 4)).append(' ');
        }
        for (int s = 0; s < 4; s++) {
            seen.append(x.load(s)).append(' ');
            for (int k = 0; k < 8; k++) {
                seen.append(x.days(k, 4)).append(' ');
            }
        }
        seen.append(x.town()).append(' ').append(x.count(0)).append(' ').append(x.undo()).append(' ').append(x.count(0));
        return seen.toString();
    }

    private static void refused(String call, int finding, ToIntFunction<ToolDays> act) {
        refused(call, finding, EdgesTest::noMore, act);
    }

    private static int noMore(ToolDays x) {
        return 0;
    }

    private static void refused(String call, int finding, ToIntFunction<ToolDays> ahead, ToIntFunction<ToolDays> act) {
        ToolDays x = rich();
        ToolDays y = rich();
        ahead.applyAsInt(x);
        ahead.applyAsInt(y);
        int all = x.status(-1);
        int those = x.status(BEYOND - finding);
        due(call, act.applyAsInt(x), finding);
        due(call + ", then status(-1)", x.status(-1), all + 1);
        due(call + ", then status()", x.status(BEYOND - finding), those + 1);
        String is = look(x);
        String was = look(y);
        if (!is.equals(was)) {
            fault(call + " changed " + was + " to " + is);
        }
    }

    // ---- the terms: findings

    private static void findings() {
        of("An object is used for at most 512 calls after it has been made");
        ToolDays x = new ToolDays();
        repeat(511, x, y -> y.round(0));
        due("the 512th call", x.status(0), 511);
        ToolDays full = from("round 12;tool 11;rounded 0 8,0 8,0 8,0 8,0 8,0 8,0 8,0 8");
        repeat(5, full, y -> y.order(0, 100, 99));
        for (int k = 0; k < 400; k++) {
            due("the dearest call again and again", full.best(2), 1234);
        }

        of("LOW is -1000001; LOW BEYOND, LOW - 1 FULL, LOW - 2 KIND, LOW - 3 NONE, LOW - 4 STATE, LOW - 5 MISSING, LOW - 6 SIZE");
        ToolDays y = from("tool;plan 0 1");
        y.hold(0, 0);
        due("round(0)", y.round(0), -1000001);
        due("a 9th tool", repeat(8, y, z -> z.tool(0)), -1000002);
        due("a PLAN as a SOON one", y.as(0, 1), -1000003);
        due("undo()", y.undo(), -1000004);
        due("load(0)", y.load(0), -1000006);
        due("sheet(0, 8, -1)", y.sheet(0, 8, -1), -1000007);

        of("What seed() and count(6) tell, z, may be any int: that is no finding");
        ToolDays w = new ToolDays();
        int[] seeds = {MIN, MAX, 0, -1, -1000000, -1000001, -1000002, -1000003, -1000004, -1000005, -1000006, -1000007, -1000008};
        int was = 1;
        for (int v : seeds) {
            due("seed(" + v + ")", w.seed(v), was);
            due("count(6)", w.count(6), v);
            was = v;
        }
        due("status(-1)", w.status(-1), 0);
    }

    private static void orderOfFindings() {
        of("Each act tells its findings in the order in which they are asked (that of its words)");
        ToolDays x = from("tool;tool;tool;tool;tool;tool;tool;tool;plan 0 1,0 1,0 1,0 1,0 1,0 1,0 1,0 1");
        repeat(7, x, y -> y.thing(0, 0, 1));
        repeat(5, x, y -> y.order(0, 0, 1));
        repeat(30, x, y -> y.feed(0, 4));
        due("feed: n ahead of FULL", x.feed(0, 5), BEYOND);
        due("feed: n ahead of FULL", x.feed(0, 0), BEYOND);
        due("tool: BEYOND ahead of FULL", x.tool(4096), BEYOND);
        due("thing: BEYOND ahead of FULL", x.thing(0, 0, 9), BEYOND);
        due("thing: BEYOND ahead of FULL", x.thing(7, 0, 1), BEYOND);
        due("thing: BEYOND ahead of FULL", x.thing(0, 8, 1), BEYOND);
        due("step: BEYOND ahead of FULL", x.step(0, 8, 1, 0), BEYOND);
        due("step: BEYOND ahead of FULL", x.step(0, 0, 9, 0), BEYOND);
        due("step: BEYOND ahead of FULL", x.step(0, 0, 1, 100), BEYOND);
        due("order: BEYOND ahead of FULL", x.order(8, 0, 1), BEYOND);
        due("order: BEYOND ahead of FULL", x.order(0, 400, 1), BEYOND);
        due("order: BEYOND ahead of FULL", x.order(0, 0, 0), BEYOND);
        due("next: BEYOND ahead of NONE", x.next(0, 0, 1000), BEYOND);
        due("run: BEYOND ahead of NONE", x.run(0, 0, 8), BEYOND);
        due("run: BEYOND ahead of NONE", x.run(0, 1000, 0), BEYOND);
        due("ready: BEYOND ahead of NONE", x.ready(0, 1000), BEYOND);
        due("begun: BEYOND ahead of NONE", x.begun(0, 1000), BEYOND);
        due("latest: BEYOND ahead of NONE", x.latest(0, 401), BEYOND);
        due("waits: BEYOND ahead of NONE", x.waits(0, 1000), BEYOND);
        due("roundFor: BEYOND ahead of NONE", x.roundFor(0, 1000), BEYOND);
        due("nearFor: BEYOND ahead of NONE", x.nearFor(0, 1000), BEYOND);
        due("as: BEYOND ahead of MISSING", x.as(0, 7), BEYOND);
        x.hold(0, 0);
        due("as: BEYOND ahead of KIND", x.as(0, 7), BEYOND);
        due("sheet: bits ahead of SIZE", x.sheet(0, 24, -1), BEYOND);
        due("sheet: no such sheet ahead of SIZE", x.sheet(4, 8, -1), BEYOND);
        due("write: no such sheet ahead of MISSING", x.write(4, 0, 0), BEYOND);
        due("write: MISSING ahead of no such number", x.write(0, -1, 0), MISSING);
        due("copy: no such sheet ahead of MISSING", x.copy(0, 0, 4, 0, 0), BEYOND);
        due("copy: no such sheet ahead of MISSING", x.copy(4, 0, 0, 0, 0), BEYOND);
        x.sheet(0, 8, 1);
        due("copy: MISSING ahead of BEYOND", x.copy(0, -1, 1, -1, -1), MISSING);
        x.sheet(1, 16, 1);
        due("copy: KIND ahead of BEYOND", x.copy(0, -1, 1, -1, -1), KIND);
        due("judge: no such sheet ahead of MISSING", x.judge(4, 0), BEYOND);
        due("judge: MISSING ahead of no such thing", x.judge(2, 8), MISSING);
    }

    private static void refusedCalls() {
        of("one that answers a finding changes nothing but status()");
        refused("feed(7, 0)", BEYOND, x -> x.feed(7, 0));
        refused("feed(7, 5)", BEYOND, x -> x.feed(7, 5));
        refused("feed(7, 2) at 119 bytes", FULL, x -> repeat(28, x, y -> y.feed(0x20202020, 4)), x -> x.feed(7, 2));
        refused("round(13)", BEYOND, x -> x.round(13));
        refused("near(12)", BEYOND, x -> x.near(12));
        refused("tool(4096)", BEYOND, x -> x.tool(4096));
        refused("a 9th tool", FULL, x -> repeat(5, x, y -> y.tool(1)), x -> x.tool(1));
        refused("days(3, 1)", BEYOND, x -> x.days(3, 1));
        refused("days(0, 4096)", BEYOND, x -> x.days(0, 4096));
        refused("may(0, 1000)", BEYOND, x -> x.may(0, 1000));
        refused("thing(0, 0, 9)", BEYOND, x -> x.thing(0, 0, 9));
        refused("a 9th thing", FULL, x -> repeat(6, x, y -> y.thing(1, 1, 1)), x -> x.thing(1, 1, 1));
        refused("step(1, 0, 1, 100)", BEYOND, x -> x.step(1, 0, 1, 100));
        refused("a 9th step", FULL, x -> repeat(6, x, y -> y.step(0, 1, 1, 1)), x -> x.step(0, 1, 1, 1));
        refused("thingOf(2, -1, 0)", BEYOND, x -> x.thingOf(2, -1, 0));
        refused("turn(0, 7)", BEYOND, x -> x.turn(0, 7));
        refused("change(0, 0, 0, 3)", BEYOND, x -> x.change(0, 0, 0, 3));
        refused("change(0, 0, 1, 9)", BEYOND, x -> x.change(0, 0, 1, 9));
        refused("change(0, 0, 2, 100)", BEYOND, x -> x.change(0, 0, 2, 100));
        refused("change(0, 0, 3, 1)", BEYOND, x -> x.change(0, 0, 3, 1));
        refused("next(0, 2, 0)", BEYOND, x -> x.next(0, 2, 0));
        refused("next(1, 0, 0)", NONE, x -> x.next(1, 0, 0));
        refused("run(1, 0, 0)", NONE, x -> x.run(1, 0, 0));
        refused("spoils(0, 1)", NONE, x -> x.spoils(0, 1));
        refused("ready(1, 0)", NONE, x -> x.ready(1, 0));
        refused("begun(1, 0)", NONE, x -> x.begun(1, 0));
        refused("latest(1, 400)", NONE, x -> x.latest(1, 400));
        refused("waits(1, 0)", NONE, x -> x.waits(1, 0));
        refusedOrdersAndSheets();
    }

    private static void refusedOrdersAndSheets() {
        refused("order(0, 0, 100)", BEYOND, x -> x.order(0, 0, 100));
        refused("a 6th order", FULL, x -> repeat(3, x, y -> y.order(0, 0, 1)), x -> x.order(0, 0, 1));
        refused("orderOf(2, 0)", BEYOND, x -> x.orderOf(2, 0));
        refused("taken(11, 2, 0)", BEYOND, x -> x.taken(11, 2, 0));
        refused("best(3)", BEYOND, x -> x.best(3));
        refused("idle(8)", BEYOND, x -> x.idle(8));
        refused("most(2)", BEYOND, x -> x.most(2));
        refused("chokes(2)", BEYOND, x -> x.chokes(2));
        refused("turned(2)", BEYOND, x -> x.turned(2));
        refused("roundFor(1, 0)", NONE, x -> x.roundFor(1, 0));
        refused("nearFor(1, 0)", NONE, x -> x.nearFor(1, 0));
        refused("chance(0, 0)", BEYOND, x -> x.chance(0, 0));
        refused("chance(0, 41)", BEYOND, x -> x.chance(0, 41));
        refused("chance(2, 1)", BEYOND, x -> x.chance(2, 1));
        refused("hold(1, 2)", BEYOND, x -> x.hold(1, 2));
        refused("hold(10, 0)", BEYOND, x -> x.hold(10, 0));
        refused("as(0, 0)", MISSING, x -> x.as(0, 0));
        refused("as(1, 6)", KIND, x -> x.as(1, 6));
        refused("sheet(0, 4, 1)", BEYOND, x -> x.sheet(0, 4, 1));
        refused("sheet(0, 8, -1)", SIZE, x -> x.sheet(0, 8, -1));
        refused("sheet(0, 0, -1)", SIZE, x -> x.sheet(0, 0, -1));
        refused("sheet(0, 8, 41)", BEYOND, x -> x.sheet(0, 8, 41));
        refused("sheet(0, 0, 41)", BEYOND, x -> x.sheet(0, 0, 41));
        refused("write(0, 3, 1)", BEYOND, x -> x.write(0, 3, 1));
        refused("write(3, 0, 1)", MISSING, x -> x.write(3, 0, 1));
        refused("copy(0, 0, 2, 0, 3)", BEYOND, x -> x.copy(0, 0, 2, 0, 3));
        refused("copy(2, 0, 0, 0, 3)", BEYOND, x -> x.copy(2, 0, 0, 0, 3));
        refused("copy(0, 0, 1, 0, 0)", KIND, x -> x.copy(0, 0, 1, 0, 0));
        refused("copy(0, 0, 3, 0, 0)", MISSING, x -> x.copy(0, 0, 3, 0, 0));
        refused("load(3)", MISSING, x -> x.load(3));
        refused("judge(0, 2)", BEYOND, x -> x.judge(0, 2));
        refused("count(8)", BEYOND, x -> x.count(8));
        refused("status(7)", BEYOND, x -> x.status(7));
        ToolDays x = from("tool 2;plan 0 1");
        x.tear();
        due("undo() of nothing", x.undo(), NONE);
        due("ready(0, 0) as ahead", x.ready(0, 0), 2);
    }

    /** What only tells must leave all as it was, status() too. */
    private static void told(String call, ToIntFunction<ToolDays> act) {
        ToolDays x = rich();
        int all = x.status(-1);
        act.applyAsInt(x);
        due(call + ", then status(-1)", x.status(-1), all);
        String is = look(x);
        String was = look(rich());
        if (!is.equals(was)) {
            fault(call + " changed " + was + " to " + is);
        }
    }

    private static void callsThatTell() {
        of("Nothing is promised beyond the answers and state changes described above");
        told("may(0, 1)", x -> x.may(0, 1));
        told("thingOf(0, 1, 2)", x -> x.thingOf(0, 1, 2));
        told("next(0, 0, 3)", x -> x.next(0, 0, 3));
        told("run(0, 3, 1)", x -> x.run(0, 3, 1));
        told("spoils(1, 3)", x -> x.spoils(1, 3));
        told("ready(0, 3)", x -> x.ready(0, 3));
        told("begun(0, 3)", x -> x.begun(0, 3));
        told("latest(0, 30)", x -> x.latest(0, 30));
        told("waits(0, 3)", x -> x.waits(0, 3));
        told("orderOf(1, 2)", x -> x.orderOf(1, 2));
        told("taken(10, 2, 0)", x -> x.taken(10, 2, 0));
        told("best(2)", x -> x.best(2));
        told("most(0)", x -> x.most(0));
        told("chokes(0)", x -> x.chokes(0));
        told("idle(5)", x -> x.idle(5));
        told("turned(0)", x -> x.turned(0));
        told("roundFor(0, 3)", x -> x.roundFor(0, 3));
        told("nearFor(0, 3)", x -> x.nearFor(0, 3));
        told("as(1, 0)", x -> x.as(1, 0));
        told("judge(0, 0)", x -> x.judge(0, 0));
        told("count(3)", x -> x.count(3));
        told("status(-1)", x -> x.status(-1));
    }

    private static void quotientsAndSets() {
        of("Quotients are cut.");
        due("8 by 3", from("tool 0;plan 0 3").most(0), 2);
        due("16 by 9", from("tool 0 1;plan 0 8,0 1").most(0), 1);
        due("8 by 9", from("tool 0;plan 0 8,0 1").most(0), 0);

        of("Sets are told as bits");
        ToolDays x = from("tool 1 6;plan 0 1;order 0 due 0 worth 1;order 0 due 1 worth 1;order 0 due 1 worth 1");
        due("idle(1)", x.idle(1), 0b0111101);
        due("taken(12, 3, 1)", x.taken(12, 3, 1), 0b110);
        due("best(1)", x.best(1), 0b110);

        of("of several that would do the least number counts, where nothing else is told");
        due("chokes of two alike", from("tool 1;tool 2;plan 1 2,0 2").chokes(0), 0);
        // As it is 3 and 9; tool 0 on day 0 or 1 (by 4 or 5) makes it 2, no turn of tool 1 less than 4.
        due("turned by 4 or 5", from("tool 3;tool 2;plan 0 1,1 1").turned(0), 4);
        // As it is 2, 9, 11; tool 0 on day 0 or 1 (by 5 or 6) makes it 4, and so does tool 1 on day 3 (by 1).
        due("turned, either tool", from("tool 2;tool 2;tool 4;plan 0 1,1 1,2 1").turned(0), 5);
        due("roundFor 1 to 12", from("tool 0;plan 0 1").roundFor(0, 0), 1);
        due("nearFor -1 to 11", from("tool 0;plan 0 1").nearFor(0, 0), -1);
    }

    // ---- the terms: the round, tools, near

    private static void roundAndTools() {
        of("THE ROUND has 1 to 12 days (7 at first)");
        ToolDays x = new ToolDays();
        due("at first", x.count(0), 7);
        due("round(0)", x.round(0), BEYOND);
        due("round(1)", x.round(1), 7);
        due("round(13)", x.round(13), BEYOND);
        due("round(12)", x.round(12), 1);
        due("count(0)", x.count(0), 12);

        of("DAY d (0, 1, ..) is that of the ROUND which is the rest of d by it");
        for (int n = 1; n <= 12; n++) {
            ToolDays y = new ToolDays();
            y.round(n);
            y.tool(1 << n - 1);
            for (int d : new int[] {0, 1, n - 1, n, n + 1, 2 * n - 1, 2 * n, 998, 999}) {
                due("round(" + n + "), may(0, " + d + ")", y.may(0, d), d % n == n - 1 ? 2 : 0);
            }
        }

        of("TOOLS 0, 1, .. (at most 8)");
        ToolDays z = new ToolDays();
        for (int k = 0; k < 8; k++) {
            due("tool", z.tool(k), k);
        }
        due("a 9th tool", z.tool(0), FULL);
        due("count(2)", z.count(2), 8);
    }

    private static void daysBeyondTheRound() {
        of("(bits 0 to 11; those that THE ROUND has not count nothing)");
        ToolDays x = from("tool 7 11;plan 0 1;order 0 due 399 worth 1;near 4;walked 0 1");
        due("round of 7: may(0, 7)", x.may(0, 7), 0);
        due("round of 7: may(0, 11)", x.may(0, 11), 0);
        due("round of 7: next(0, 0, 0)", x.next(0, 0, 0), NONE);
        due("round of 7: next(1, 0, 0)", x.next(1, 0, 0), NONE);
        due("round of 7: ready(0, 0)", x.ready(0, 0), NONE);
        due("round of 7: spoils(0, 0)", x.spoils(0, 0), 0);
        due("round of 7: idle(1)", x.idle(1), 127);
        due("round of 7: most(0)", x.most(0), 0);
        due("round of 7: taken(0, 1, 1)", x.taken(0, 1, 1), 0);
        due("round of 7: turned(0)", x.turned(0), 0);
        due("round of 7: chance(0, 40)", x.chance(0, 40), 0);
        due("it is kept all the same", x.days(0, set(7, 11)), set(7, 11));
        x.round(8);
        due("round of 8: may(0, 7)", x.may(0, 7), 2);
        due("round of 8: may(0, 11), which is day 3, near day 7", x.may(0, 11), 1);
        due("round of 8: next(0, 0, 0)", x.next(0, 0, 0), 7);
        due("round of 8: idle(1)", x.idle(1), 127);
        due("round of 8: most(0)", x.most(0), 8);
        due("round of 8: taken(0, 1, 1)", x.taken(0, 1, 1), 1);
        x.round(11);
        due("round of 11: next(0, 0, 8)", x.next(0, 0, 8), 18);
        x.round(12);
        due("round of 12: may(0, 11)", x.may(0, 11), 2);
        due("round of 12: next(0, 0, 8)", x.next(0, 0, 8), 11);
        due("round of 12: most(0)", x.most(0), 16);
        due("round of 12: idle(1)", x.idle(1), 4095 & ~set(7, 11));
    }

    private static void near() {
        of("NEAR is a number (0 to 11) or none (-1, at first)");
        ToolDays x = new ToolDays();
        due("near(-2)", x.near(-2), BEYOND);
        due("near(12)", x.near(12), BEYOND);
        due("near(11)", x.near(11), -1);
        due("near(-1)", x.near(-1), 11);
        due("near(0)", x.near(0), -1);
        due("near(-1)", x.near(-1), 0);

        of("with it a TOOL MAY be used NEAR on DAY d, if it MAY be on DAY d and NEAR together");
        // {round, NEAR, the day of the round on which the tool of day 0 may be used NEAR, -1 for none}
        int[][] nears = {{7, 1, 6}, {7, 6, 1}, {7, 0, -1}, {7, 7, -1}, {7, 8, 6}, {7, 11, 3}, {5, 11, 4}, {12, 11, 1},
            {12, 1, 11}, {2, 11, 1}, {2, 10, -1}, {1, 11, -1}, {7, -1, -1}, {12, -1, -1}};
        for (int[] n : nears) {
            ToolDays y = new ToolDays();
            y.round(n[0]);
            y.near(n[1]);
            y.tool(1);
            for (int d = 0; d < n[0]; d++) {
                due("round " + n[0] + ", near " + n[1] + ": may(0, " + d + ")", y.may(0, d), d == 0 ? 2 : d == n[2] ? 1 : 0);
            }
            int d = 999;
            due("round " + n[0] + ", near " + n[1] + ": may(0, 999)", y.may(0, d), d % n[0] == 0 ? 2 : d % n[0] == n[2] ? 1 : 0);
        }
        ToolDays z = from("near 1;tool 7");
        due("day 6 and NEAR are day 0, no day 7", z.may(0, 6), 0);
    }

    // ---- the terms: things

    private static void things() {
        of("THINGS 0, 1, .. (at most 8) are of KINDS");
        ToolDays x = from("tool");
        due("kind 7", x.thing(7, 0, 1), BEYOND);
        due("kind -1", x.thing(-1, 0, 1), BEYOND);
        for (int k = 0; k < 8; k++) {
            due("thing", x.thing(k % 7, 0, 1), k);
        }
        due("a 9th thing", x.thing(0, 0, 1), FULL);
        due("count(3)", x.count(3), 8);

        of("0 PLAN; 1 SOON, 2 ROUNDED, 3 BATCH under PLAN; 4 WALKED under SOON; 5 BEST under WALKED; 6 LATE under BATCH");
        ToolDays y = from("tool;plan 0 1");
        y.hold(0, 0);
        String[] over = {"0", "01", "02", "03", "014", "0145", "036"};
        for (int kind = 0; kind < 7; kind++) {
            y.turn(0, kind);
            for (int as = 0; as < 7; as++) {
                due("kind " + kind + " as " + as, y.as(0, as), over[kind].indexOf('0' + as) < 0 ? KIND : 0);
            }
        }

        of("Each has 1 to 8 STEPS: a TOOL, HOURS (1 to 8), a WAIT (0 to 99).");
        ToolDays z = from("tool;tool");
        due("no hours", z.thing(0, 0, 0), BEYOND);
        due("9 hours", z.thing(0, 0, 9), BEYOND);
        due("no such tool", z.thing(0, 2, 1), BEYOND);
        due("8 hours", z.thing(0, 1, 8), 0);
        due("1 hour", z.thing(0, 1, 1), 1);
        due("one step", z.thingOf(0, -2, 0), 1);
        due("wait -1", z.step(0, 0, 1, -1), BEYOND);
        due("wait 100", z.step(0, 0, 1, 100), BEYOND);
        due("wait 0", z.step(0, 0, 1, 0), 2);
        due("wait 99", z.step(0, 1, 8, 99), 3);
        due("8 steps", repeat(5, z, w -> w.step(0, 0, 1, 0)), 8);
        due("a 9th step", z.step(0, 0, 1, 0), FULL);
        due("8 steps", z.thingOf(0, -2, 0), 8);
        lastThing();
    }

    /** The 8th of 8 things with its 8 steps, of the 8th of 8 tools, held by the last spot. */
    private static void lastThing() {
        ToolDays x = from("round 2;tool;tool;tool;tool;tool;tool;tool;tool 1");
        repeat(8, x, y -> y.thing(SOON, 7, 1));
        due("8 steps", repeat(7, x, y -> y.step(7, 7, 1, 0)), 8);
        repeat(5, x, y -> y.order(7, 9, 9));
        x.sheet(3, 32, 8);
        for (int i = 0; i < 8; i++) {
            x.write(3, i, 1);
        }
        due("next(7, 7, 0)", x.next(7, 7, 0), 1);
        due("run(7, 0, 7)", x.run(7, 0, 7), 1);
        due("spoils(7, 0)", x.spoils(7, 0), NONE);
        due("ready(7, 0)", x.ready(7, 0), 1);
        due("begun(7, 0)", x.begun(7, 0), 0);
        due("latest(7, 400)", x.latest(7, 400), 399);
        due("waits(7, 0)", x.waits(7, 0), 0);
        due("most(7)", x.most(7), 1);
        due("chokes(7)", x.chokes(7), 7);
        due("turned(7)", x.turned(7), 701);
        due("roundFor(7, 0)", x.roundFor(7, 0), 2);
        due("nearFor(7, 0)", x.nearFor(7, 0), -1);
        due("chance(7, 40)", x.chance(7, 40), 40);
        due("judge(3, 7)", x.judge(3, 7), 0);
        due("taken(43210, 5, 10)", x.taken(43210, 5, 10), 40);
        due("taken(43210, 5, 2)", x.taken(43210, 5, 2), 9);
        due("best(0)", x.best(0), 45);
        due("hold(9, 7)", x.hold(9, 7), 1);
        due("as(9, 0)", x.as(9, 0), 7);
    }

    private static void next(ToolDays x, int i, int... behindAndDue) {
        for (int k = 0; k + 1 < behindAndDue.length; k += 2) {
            due("next(0, " + i + ", " + behindAndDue[k] + ")", x.next(0, i, behindAndDue[k]), behindAndDue[k + 1]);
        }
    }

    private static void nextOfPlanSoonRounded() {
        of("PLAN: the first DAY above d (from d on for STEP 0) on which its TOOL MAY be used.");
        ToolDays x = from("tool 3;plan 0 1,0 1");
        next(x, 0, 0, 3, 2, 3, 3, 3, 4, 10, 10, 10, 999, 1004, 997, 997);
        next(x, 1, 0, 3, 2, 3, 3, 10, 4, 10, 9, 10, 10, 17, 999, 1004, 997, 1004);
        x.near(1);
        next(x, 0, 1, 3, 4, 10);
        next(x, 1, 1, 3, 3, 10);

        of("SOON: the first one from d on.");
        ToolDays y = from("tool 3;soon 0 1,0 1");
        next(y, 0, 2, 3, 3, 3, 4, 10, 997, 997);
        next(y, 1, 2, 3, 3, 3, 4, 10, 997, 997);
        y.near(1);
        next(y, 1, 1, 3, 4, 10);

        of("ROUNDED: STEP 0: the first one from that DAY on which is the first from d on that is day 0 of THE ROUND; others as a PLAN.");
        ToolDays z = from("tool 3;rounded 0 1,0 1");
        next(z, 0, 0, 3, 1, 10, 3, 10, 6, 10, 7, 10, 8, 17);
        next(z, 1, 0, 3, 2, 3, 3, 10, 9, 10, 10, 17);
        z.days(0, 1);
        next(z, 0, 0, 0, 1, 7, 6, 7, 7, 7, 8, 14);
        z.days(0, set(6));
        next(z, 0, 0, 6, 1, 13, 6, 13, 7, 13);
        z.round(12);
        z.days(0, set(11));
        next(z, 0, 0, 11, 1, 23, 11, 23, 12, 23);
        z.round(1);
        z.days(0, 1);
        next(z, 0, 0, 0, 5, 5, 999, 999);
        next(z, 1, 0, 1, 5, 6);
    }

    private static void nextOfBatchAndLate() {
        of("BATCH: d, if the STEP ahead has the same TOOL; else as a PLAN.");
        ToolDays x = from("tool 3;tool 4;tool;batch 0 1,0 1,1 1,2 1,2 1,0 1");
        next(x, 0, 2, 3, 3, 3, 4, 10);
        next(x, 1, 3, 3, 5, 5, 999, 999);
        next(x, 2, 3, 4, 4, 11);
        next(x, 3, 0, NONE);
        next(x, 4, 9, 9, 0, 0);
        next(x, 5, 3, 10);

        of("LATE: STEP 0 as a BATCH one; others as those of a PLAN, but behind d and 1.");
        ToolDays y = from("tool 3;tool 4;late 0 1,0 1,1 1");
        next(y, 0, 2, 3, 3, 3, 4, 10);
        next(y, 1, 0, 3, 1, 3, 2, 10, 3, 10, 8, 10, 9, 17);
        next(y, 2, 2, 4, 3, 11, 4, 11);
        y.round(1);
        y.days(0, 1);
        next(y, 0, 5, 5);
        next(y, 1, 5, 7);
    }

    private static void nextOfWalkedAndBest() {
        of("WALKED: the lesser one of that of a SOON one, and of the first DAY above d on which its TOOL MAY be used NEAR.");
        ToolDays x = from("tool 3;tool;walked 0 1,0 1,1 1");
        next(x, 1, 1, 3, 3, 3, 4, 10);
        x.near(1); // day 2
        next(x, 0, 1, 2, 2, 3, 3, 3, 4, 9, 9, 10);
        next(x, 1, 1, 2, 2, 3, 3, 3, 4, 9, 9, 10, 8, 9);
        next(x, 2, 0, NONE);
        x.near(0); // day 3
        next(x, 1, 2, 3, 3, 3, 4, 10);
        x.near(3); // day 0
        next(x, 1, 0, 3, 4, 7, 6, 7, 7, 10);
        x.near(6); // day 4
        next(x, 1, 3, 3, 4, 10, 10, 10, 5, 10);
        x.near(11); // day 6
        next(x, 1, 4, 6, 6, 10, 5, 6, 13, 17);

        of("BEST: for the last STEP the first DAY from d on, whatever its TOOL, that is day 0 of THE ROUND, if that is less than for a WALKED one; else as a WALKED one.");
        ToolDays y = from("tool 3;tool;best 0 1,0 1");
        next(y, 0, 0, 3, 3, 3, 4, 10, 7, 10);
        next(y, 1, 0, 0, 1, 3, 3, 3, 4, 7, 6, 7, 7, 7, 8, 10);
        y.near(2); // day 1
        next(y, 1, 5, 7, 0, 0, 7, 7, 1, 3);
        y.near(3); // day 0
        next(y, 0, 4, 7);
        next(y, 1, 4, 7);
        y.near(4); // day 6
        next(y, 1, 4, 6, 6, 7);
        y.step(0, 0, 1, 9);
        next(y, 1, 0, 3, 6, 10);
        next(y, 2, 0, 0, 6, 7);
        ToolDays z = from("tool 3;best 0 1");
        next(z, 0, 0, 0, 1, 3, 4, 7);
        z.days(0, 0);
        next(z, 0, 0, 0, 1, 7);
        z.round(1);
        next(z, 0, 0, 0, 5, 5);
        z.round(12);
        next(z, 0, 0, 0, 1, 12, 999, 1008);
    }

    private static void nextIsLookedFor() {
        of("A DAY is looked for at most 60 DAYS above the first that could be so (d; d and 1; d and 2); else there is none.");
        ToolDays x = from("round 12;tool;tool 0;plan 0 1,0 1,1 1,0 1");
        for (int kind = PLAN; kind <= LATE; kind++) {
            x.turn(0, kind);
            next(x, 0, 0, NONE, 1, NONE, 999, NONE);
            next(x, 1, 0, kind == BATCH ? 0 : NONE, 999, kind == BATCH ? 999 : NONE);
            next(x, 3, 0, kind == BEST ? 0 : NONE);
        }
        // As far as a day can be: a round of 12 less a day above the first that could be so.
        x.turn(0, PLAN);
        next(x, 2, 0, 12);
        x.turn(0, LATE);
        next(x, 2, 11, 24);
        x.change(0, 0, 0, 1);
        next(x, 0, 1, 12);
        x.turn(0, ROUNDED);
        x.days(1, set(11));
        next(x, 0, 1, 23);
        x.turn(0, SOON);
        next(x, 2, 12, 23);
        x.turn(0, WALKED);
        x.near(11); // day 0
        next(x, 2, 12, 23, 0, 11);
    }

    private static void runs() {
        of("NEXT of STEP i behind a DAY d (that of the STEP ahead; the begin for STEP 0)");
        ToolDays v = from("tool 2;tool 0 4;plan 0 1,1 1,1 1");
        due("run(0, 0, 0): behind the begin", v.run(0, 0, 0), v.next(0, 0, 0));
        due("run(0, 0, 1): behind day 2, not the begin", v.run(0, 0, 1), 4);
        due("run(0, 0, 2): behind day 4", v.run(0, 0, 2), 7);
        due("next(0, 1, 0): behind day 0, wherever step 0 is", v.next(0, 1, 0), 4);

        of("A RUN of a THING from a begin: its STEPS one by one, each NEXT behind the one ahead.");
        ToolDays x = from("tool 1;tool 1 3;plan 0 1,1 1,1 1");
        int[][] runs = {{0, 1, 3, 8}, {1, 1, 3, 8}, {2, 8, 10, 15}, {999, 1002, 1004, 1009}};
        for (int[] run : runs) {
            for (int i = 0; i < 3; i++) {
                due("run(0, " + run[0] + ", " + i + ")", x.run(0, run[0], i), run[i + 1]);
            }
        }

        of("It SPOILS, if there is no NEXT, or a STEP (not 0) is more than its WAIT DAYS behind the one ahead.");
        ToolDays y = from("tool 1;tool 4;tool;plan 0 1 wait 0,1 1 wait 3");
        due("3 days with a WAIT of 3; 6 days ahead of step 0", y.spoils(0, 2), NONE);
        y.change(0, 1, 2, 2);
        due("3 days with a WAIT of 2", y.spoils(0, 2), 1);
        y.change(0, 1, 2, 4);
        due("3 days with a WAIT of 4", y.spoils(0, 2), NONE);
        y.step(0, 2, 1, 99);
        due("no NEXT", y.spoils(0, 0), 2);
        y.change(0, 0, 0, 2);
        due("no NEXT of step 0", y.spoils(0, 0), 0);
        due("a WAIT of 0", from("tool 1;soon 0 1,0 1 wait 0").spoils(0, 0), NONE);
        due("a WAIT of 0", from("tool;best 0 1").spoils(0, 0), NONE);
        due("a WAIT of 0", from("round 1;tool 0;plan 0 1,0 1 wait 0").spoils(0, 0), 1);
        due("a WAIT of 1", from("round 1;tool 0;plan 0 1,0 1 wait 1").spoils(0, 0), NONE);
        due("13 days with a WAIT of 13", from("round 12;tool 1;tool 2;late 0 1,1 1 wait 13").spoils(0, 0), NONE);
        due("13 days with a WAIT of 12", from("round 12;tool 1;tool 2;late 0 1,1 1 wait 12").spoils(0, 0), 1);
    }

    private static void ready() {
        of("READY from d on: the DAY of the last STEP of the first RUN (begins d, d and 1, .. d and 200) that doesn't SPOIL; BEGUN: its begin.");
        // Only a begin on day 11 of a round of 12 makes it: both steps on that day.
        ToolDays x = from("round 12;tool 0 1 2 3 4 5 6 7 8 9 10 11;tool 11;soon 0 1,1 1 wait 0,0 1");
        int[][] asks = {{0, 11}, {10, 11}, {11, 11}, {12, 23}, {999, 1007}};
        for (int[] ask : asks) {
            due("ready(0, " + ask[0] + ")", x.ready(0, ask[0]), ask[1]);
            due("begun(0, " + ask[0] + ")", x.begun(0, ask[0]), ask[1]);
        }
        ToolDays y = from("tool 3;plan 0 1,0 1");
        due("the first begin of several runs alike", y.begun(0, 0), 0);
        due("ready(0, 0)", y.ready(0, 0), 10);
        y.change(0, 1, 2, 6);
        due("all spoil", y.ready(0, 0), NONE);
        due("all spoil", y.begun(0, 0), NONE);
    }

    // ---- the terms: orders, MOST

    private static void orders() {
        of("(at most 5): a THING, DUE (a DAY, 0 to 399), WORTH (1 to 99)");
        ToolDays x = from("tool;plan 0 1");
        int[][] beyond = {{1, 0, 1}, {-1, 0, 1}, {0, -1, 1}, {0, 400, 1}, {0, 0, 0}, {0, 0, 100}};
        for (int[] b : beyond) {
            due("order(" + b[0] + ", " + b[1] + ", " + b[2] + ")", x.order(b[0], b[1], b[2]), BEYOND);
        }
        due("order(0, 0, 1)", x.order(0, 0, 1), 0);
        due("order(0, 399, 99)", x.order(0, 399, 99), 1);
        due("5 orders", repeat(3, x, y -> y.order(0, 1, 1)), 4);
        due("a 6th order", x.order(0, 1, 1), FULL);

        of("Each TOOL has 8 HOURS on each DAY.");
        ToolDays y = from("tool 0;tool 0;plan 0 4;plan 0 5;plan 1 4;order 0 due 0 worth 1;order 0 due 0 worth 2", "order 1 due 0 worth 4;order 2 due 0 worth 8");
        due("4 and 4 hours", y.taken(1, 2, 0), 3);
        due("4 and 5 hours", y.taken(2, 2, 0), 1);
        due("5 and 4 hours", y.taken(20, 2, 0), 4);
        due("another tool has its own", y.taken(13, 3, 0), 11);
        due("3 and 3 and 3 hours", from("tool 0;plan 0 3;order 0 due 0 worth 1;order 0 due 0 worth 2;order 0 due 0 worth 4").taken(12, 3, 0), 3);
        due("another tool on another day", from("tool 4;tool 3;plan 0 8;plan 1 8;order 0 due 4 worth 1;order 1 due 3 worth 2").taken(1, 2, 0), 3);
        due("another day has its own", from("tool 0 1;plan 0 8;order 0 due 1 worth 1;order 0 due 1 worth 2").taken(1, 2, 0), 3);

        of("(more STEPS on one DAY with one TOOL all together; a STEP that is done NEAR takes these HOURS as well)");
        due("4 and 4 hours on a day", from("tool 0;batch 0 4,0 4;order 0 due 0 worth 1").taken(0, 1, 3), 8);
        due("4 and 5 hours on a day", from("tool 0;batch 0 4,0 5;order 0 due 399 worth 1").taken(0, 1, 3), 0);
        due("1, 4 and 4 hours, the first and the last with one tool", from("tool 0;tool 0;soon 0 1,1 4,0 8;order 0 due 399 worth 1").taken(0, 1, 3), 0);
        ToolDays z = from("tool 2;near 1;walked 0 5;order 0 due 1 worth 1;order 0 due 1 worth 2;order 0 due 2 worth 4");
        due("near on day 1 for one order alone", z.taken(0, 1, 0) * 10 + z.taken(1, 2, 0), 11);
        due("on day 2 for the third", z.taken(12, 3, 0), 5);
        ToolDays v = from("round 1;tool 0;soon 0 1,0 1,0 1,0 1,0 1,0 1,0 1,0 1;plan 0 8");
        repeat(5, v, u -> u.order(0, 4, 1));
        for (int pass = 0; pass < 2; pass++) {
            due("8 steps of 5 orders, a day each", v.taken(43210, 5, 1), 31);
            due("their hours", v.taken(43210, 5, 3), 40);
            due("their last day", v.taken(43210, 5, 2), 4);
        }
        ToolDays w = from("tool 3;best 0 5;order 0 due 0 worth 1;order 0 due 0 worth 2");
        due("a BEST one on day 0 takes hours as well", w.taken(1, 2, 0), 1);
    }

    private static void begins() {
        of("each by the RUN with the first begin (0 to 200) that doesn't SPOIL, has its last STEP on DAY 399 or ahead, and for whose STEPS their TOOLS have the HOURS left on these DAYS");
        // Two orders take tool 1 on the 16 days up to 189 (190); the third one needs it on the day behind tool 0's latter day.
        String eight = "plan 1 8,1 8,1 8,1 8,1 8,1 8,1 8,1 8;plan 0 1,1 1 wait 1;order 0 due 399 worth 1";
        String more = "order 0 due 399 worth 2;order 1 due 399 worth 4";
        ToolDays x = from("round 12;tool 7 8;tool 9;" + eight, more);
        due("a begin of 200", x.taken(12, 3, 0), 7);
        due("its last day", x.taken(12, 3, 2), 201);
        ToolDays y = from("round 12;tool 8 9;tool 10;" + eight, more);
        due("no begin of 201", y.taken(12, 3, 0), 3);
        due("the last day", y.taken(12, 3, 2), 190);
        // First steps on days 11, 107 and 203 (begin 181); the next one would need a begin of 277.
        ToolDays z = from("round 12;tool 11;rounded 0 8,0 8,0 8,0 8,0 8,0 8,0 8,0 8");
        repeat(5, z, w -> w.order(0, 399, 1));
        due("day 203 and 7 rounds", z.taken(1234, 5, 2), 287);
        due("three have a begin of 0 to 200", z.taken(1234, 5, 1), 7);
        ToolDays v = from("tool 1;tool 4;plan 0 1,1 1 wait 2;order 0 due 399 worth 1");
        due("each of its runs spoils", v.taken(0, 1, 1), 0);
    }

    private static void inTime() {
        of("it is IN TIME, if its last STEP is DUE or ahead; then HOURS are taken, else it isn't made.");
        ToolDays x = from("tool 2;plan 0 8;order 0 due 2 worth 1;order 0 due 1 worth 2;order 0 due 8 worth 4;order 0 due 9 worth 8");
        due("on the day", x.taken(0, 1, 1), 1);
        due("a day late", x.taken(1, 1, 1), 0);
        due("a day late: no hours", x.taken(1, 1, 3), 0);
        due("a day late: not made", x.taken(1, 1, 2), -1);
        due("the day is left for another one", x.taken(10, 2, 1), 1);
        due("day 9 is a day late", x.taken(2, 2, 1), 1);
        due("day 9 is in time", x.taken(3, 2, 1), 9);
        due("it takes day 2, another one day 9", x.taken(2130, 4, 1), 12);

        of("THE BEST SEQUENCE: that of all ORDERS by which WORTHS of those IN TIME are greatest together; of several the first, ORDER by ORDER.");
        ToolDays y = from("tool 2;plan 0 5;order 0 due 9 worth 5;order 0 due 2 worth 5;order 0 due 9 worth 5");
        // Two of them: 0 and 2 as well as 1 and 0, 1 and 2; the first sequence is 0, 1, 2.
        due("best(0)", y.best(0), 10);
        due("best(1)", y.best(1), 5);
        due("best(2)", y.best(2), 12);
        y.order(0, 2, 6);
        due("the one of 6 ahead: best(0)", y.best(0), 11);
        due("the one of 6 ahead: best(1)", y.best(1), 9);
        due("the one of 6 ahead: best(2)", y.best(2), 3012);
        ToolDays z = from("tool 2;plan 0 8;order 0 due 2 worth 5;order 0 due 2 worth 7;order 0 due 1 worth 5");
        due("one of 7 ahead of one of 5: best(0)", z.best(0), 7);
        due("one of 7 ahead of one of 5: best(2)", z.best(2), 102);
        z.days(0, 0);
        due("none in time: best(0)", z.best(0), 0);
        due("none in time: best(1)", z.best(1), 0);
        due("none in time, so the first of all: best(2)", z.best(2), 12);
    }

    private static void mostAndChokes() {
        of("for each TOOL that it needs 8 times how many of its DAYS THE ROUND has, by all HOURS of STEPS with it (cut); the least of these");
        ToolDays x = from("tool 0 6 7;tool 1;tool;plan 0 3,1 1,0 2");
        due("16 by 5, 8 by 1", x.most(0), 3);
        x.round(8);
        due("24 by 5", x.most(0), 4);
        x.round(1);
        due("tool 1 has no day: 0", x.most(0), 0);
        due("of one step, one day", from("tool 0;plan 0 8").most(0), 1);
        due("the greatest", from("round 12;tool 0 1 2 3 4 5 6 7 8 9 10 11;plan 0 1").most(0), 96);
        due("8 by 64", from("tool 0;plan 0 8,0 8,0 8,0 8,0 8,0 8,0 8,0 8").most(0), 0);
        due("8 by 8, whatever the next thing takes", from("tool 0;plan 0 1,0 1,0 1,0 1,0 1,0 1,0 1,0 1;plan 0 8").most(0), 1);

        of("(STEPS that may be done NEAR likewise here)");
        due("8 by 2, not 16 by 2", from("tool 0;near 3;walked 0 2").most(0), 4);
        due("a BEST one without days", from("tool;best 0 2").most(0), 0);

        of("CHOKES: the TOOL with that least.");
        due("2 of tool 1, 8 of tool 0", from("tool 0;tool 1;plan 0 1,1 4").chokes(0), 1);
        due("2 and 2, once cut", from("tool 0;tool 1;plan 1 4,0 3").chokes(0), 0);
        due("2 and 2, once cut", from("tool 0;tool 1;plan 0 3,1 4").chokes(0), 0);
        due("a tool that it doesn't need", from("tool;tool 1;plan 1 4").chokes(0), 1);
        due("the last tool", from("tool 0;tool 0;tool 0;tool 0;tool 0;tool 0;tool 0;tool;plan 0 1,7 1").chokes(0), 7);
    }

    // ---- the terms: texts

    private static void tokens() {
        of("A TEXT is read from THE TAPE (bytes, at most 120).");
        String blanks = " ".repeat(120);
        fine("round 5" + blanks.substring(7), 1);
        fine(blanks.substring(6) + "tool 3", 1);
        ToolDays x = new ToolDays();
        repeat(30, x, y -> y.feed(0x20202020, 4));
        due("byte 121", x.feed('5', 1), FULL);

        of("TOKENS, each as long as can be: WORDS (letters a to z), NUMBERS (digits, 999 at most), SIGNS ; and ,; blanks may stand between.");
        fine("round12", 1);
        fine("round5;near3;tool1 2;plan0 1wait5,0 2;order0due9worth8", 5);
        fine("  round  5  ;  tool  ;  plan  0  1  ,  0  1  ", 3);
        faulty("rounder 5", 0);
        faulty("toolround 5", 0);
        faulty("roundx5", 0);
        faulty("r ound 5", 0);
        faulty("round 1 2", 8);
        faulty("near 99", 5);
        faulty("near 999", 5);
        faulty("near 1000", 5);
        faulty("near 1100", 5);
        faulty("near 4294967296", 5);
        faulty("near 18446744073709551616", 5);
        faultyBehind("order 0 due 999 worth 1", 12);
        faultyBehind("order 0 due 1000 worth 1", 12);
        faultyBehind("order 0 due 4294967297 worth 1", 12);
        String noTokens = "`{/:AZ_.-+#\t\n\r\0\u007f\u0080\u00a0\u00ff\u00e1";
        for (int k = 0; k < noTokens.length(); k++) {
            faulty("near 1" + noTokens.charAt(k), 6);
            faulty("near 1 " + noTokens.charAt(k) + " ", 7);
            faulty("" + noTokens.charAt(k) + "near 1", 0);
            faulty("near" + noTokens.charAt(k) + "1", 4);
        }

        of("TEXT: ITEM { ; ITEM }.");
        fine("tool", 1);
        fine("tool;tool", 2);
        faulty("tool;", 5);
        faulty(";tool", 0);
        faulty("tool;;tool", 5);
        faulty("tool,tool", 4);
        faulty("tool tool", 5);
    }

    private static void items() {
        of("round and a NUMBER (1 to 12)");
        fine("round 1", 1);
        fine("round 12", 1);
        faulty("round 0", 6);
        faulty("round 13", 6);
        faulty("round near", 6);

        of("near and a NUMBER (0 to 11)");
        fine("near 0", 1);
        fine("near 11", 1);
        faulty("near 12", 5);
        faulty("near -1", 5);
        faulty("near", 4);

        of("tool and any NUMBERS (0 to 11, each above the one ahead): a new TOOL with these DAYS");
        due("none", from("tool").days(0, 0), 0);
        due("0", from("tool 0").days(0, 0), 1);
        due("11", from("tool 11").days(0, 0), 2048);
        due("all", from("tool 0 1 2 3 4 5 6 7 8 9 10 11").days(0, 0), 4095);
        faulty("tool 12", 5);
        faulty("tool 5 5", 7);
        faulty("tool 5 4", 7);
        faulty("tool 1 3 2", 9);
        faulty("tool 0 1 2 3 4 5 6 7 8 9 10 11 11", 31);
        faulty("tool 0 1 2 3 4 5 6 7 8 9 10 11 12", 31);
        faulty("tool 1,2", 6);

        of("plan, soon, rounded, batch, walked, best or late, STEP { , STEP } (8 at most): a new THING of that KIND");
        String[] words = {"plan", "soon", "rounded", "batch", "walked", "best", "late"};
        for (int kind = 0; kind < 7; kind++) {
            due(words[kind], from("tool;" + words[kind] + " 0 1").thingOf(0, -1, 0), kind);
            faultyBehind(words[kind] + "s 0 1", 0);
            faultyBehind(words[kind], words[kind].length());
        }
        due("8 steps", from("tool;late 0 1,0 1,0 1,0 1,0 1,0 1,0 1,0 1").thingOf(0, -2, 0), 8);
        faultyBehind("late 0 1,0 1,0 1,0 1,0 1,0 1,0 1,0 1,0 1", 36);
        faultyBehind("late 0 1,0 1,0 1,0 1,0 1,0 1,0 1,0 1 wait 1,0 1", 43);
        faultyBehind("late 0 1,", 9);
        faultyBehind("late 0 1,;tool", 9);
        faultyBehind("late ,0 1", 5);
    }

    private static void itemsWithNumbers() {
        of("each STEP a NUMBER (a TOOL that there is by then), a NUMBER (1 to 8), perhaps wait and a NUMBER (0 to 99; without it 99)");
        faulty("plan 0 1;tool", 5);
        faulty("tool;plan 1 1;tool", 10);
        fine("tool;tool;plan 1 1", 3);
        faultyBehind("plan 0 0", 7);
        faultyBehind("plan 0 9", 7);
        faultyBehind("plan 0 wait 1", 7);
        faultyBehind("plan 0 1 wait 100", 14);
        faultyBehind("plan 0 1 wait", 13);
        faultyBehind("plan 0 1 wait;tool", 13);
        faultyBehind("plan 0 1 waits 1", 9);
        faultyBehind("plan 0 1 wait 1 wait 1", 16);
        faultyBehind("plan 0 1 5", 9);
        ToolDays x = from("tool;plan 0 1,0 8 wait 0,0 1 wait 99,0 2");
        int[][] steps = {{1, 99}, {8, 0}, {1, 99}, {2, 99}};
        for (int i = 0; i < 4; i++) {
            due("hours of step " + i, x.thingOf(0, i, 1), steps[i][0]);
            due("wait of step " + i, x.thingOf(0, i, 2), steps[i][1]);
        }

        of("order, a NUMBER (a THING that there is by then), due, a NUMBER (0 to 399), worth, a NUMBER (1 to 99)");
        faulty("tool;order 0 due 1 worth 1;plan 0 1", 11);
        faultyBehind("order 1 due 1 worth 1", 6);
        faultyBehind("order 1 due 1 worth 1;plan 0 1", 6);
        faultyBehind("order 0 due 400 worth 1", 12);
        faultyBehind("order 0 due 1 worth 0", 20);
        faultyBehind("order 0 due 1 worth 100", 20);
        faultyBehind("order 0 worth 1 due 1", 8);
        faultyBehind("order 0 due 1 due 1", 14);
        faultyBehind("order 0 due 1 worth 1 1", 22);
        faultyBehind("order due 1 worth 1", 6);
        ToolDays y = from("tool;plan 0 1;plan 0 1;order 1 due 0 worth 1;order 0 due 399 worth 99");
        int[] numbers = {1, 0, 1, 0, 399, 99};
        for (int k = 0; k < 6; k++) {
            due("orderOf(" + k / 3 + ", " + k % 3 + ")", y.orderOf(k / 3, k % 3), numbers[k]);
        }
    }

    private static void faults() {
        of("FAULT: the place (from 0) of the first byte of the first TOKEN that can't stand there (a NUMBER that isn't as told, another WORD, a byte that begins no TOKEN");
        faulty("5", 0);
        faulty("walk 1", 0);
        for (String word : new String[] {"bound 5", "rounz 5", "roun 5", "zround 5", "roundz 5", "fear 5", "nears 5", "pool", "toolz", "too", "toola 5"}) {
            faulty(word, 0);
        }
        for (String word : new String[] {"clan 0 1", "moon 0 1", "bounded 0 1", "match 0 1", "talked 0 1", "rest 0 1", "date 0 1", "latez 0 1", "rounde 0 1"}) {
            faultyBehind(word, 0);
        }
        faultyBehind("border 0 due 1 worth 1", 0);
        faultyBehind("order 0 cue 1 worth 1", 8);
        faultyBehind("order 0 duez 1 worth 1", 8);
        faultyBehind("order 0 due 1 forth 1", 14);
        faultyBehind("plan 0 1 bait 1", 9);
        faulty("wait 1", 0);
        faulty("due 1", 0);
        faulty("?", 0);
        faulty("   ?", 3);
        faulty("round 13;near ?", 6);
        faulty("tool 3;near ?", 12);
        faulty("round 5 ; near 12 ; ?", 15);

        of("the WORD of a 9th TOOL, THING, of a 6th ORDER, the , ahead of a 9th STEP: its own");
        String eight = "tool;tool;tool;tool;tool;tool;tool;tool";
        fine(eight, 8);
        faulty(eight + ";tool", 40);
        faulty(eight + "; tool 99", 41);
        ToolDays x = from("tool;plan 0 1;plan 0 1;plan 0 1;plan 0 1;plan 0 1;plan 0 1;plan 0 1");
        due("a 9th thing", read(x, "soon 0 1; late 9"), -11);
        due("an 8th thing", read(x, "soon 0 1"), 1);
        String[] words = {"plan", "soon", "rounded", "batch", "walked", "best", "late"};
        for (String word : words) {
            due("a 9th thing", read(x, "near 1;" + word + " 0 1"), -8);
        }
        due("4 orders", read(x, "order 0 due 1 worth 1;order 0 due 1 worth 1;order 0 due 1 worth 1;order 0 due 1 worth 1"), 4);
        due("a 6th order", read(x, "order 7 due 1 worth 1;order 8"), -23);
        due("a 5th order", read(x, "order 7 due 1 worth 1"), 1);
        due("a 6th order", read(x, "order"), -1);
        due("the , ahead of a 9th step", read(from("tool"), "plan 0 1,0 1,0 1,0 1,0 1,0 1,0 1,0 1 , x"), -38);

        of("or how many bytes there are if it ends too early");
        String[] ends = {"", "  ", "round", "round ", "near", "near  ", "tool;", "tool ; ", "tool;plan", "tool;plan 0", "tool;plan 0 ",
            "tool;plan 0 1,", "tool;plan 0 1,0", "tool;plan 0 1 wait", "tool;plan 0 1;order", "tool;plan 0 1;order 0",
            "tool;plan 0 1;order 0 due", "tool;plan 0 1;order 0 due 1", "tool;plan 0 1;order 0 due 1 worth", " ".repeat(120),
            "near" + " ".repeat(116)};
        for (String text : ends) {
            faulty(text, text.length());
        }
    }

    // ---- the terms: draws, spots, sheets

    private static void draws() {
        of("z is told (1 at first); each makes it z * 1103515245 + 12345 (an int), and gives z >>> 8.");
        ToolDays x = from("tool 0;soon 0 1,0 1");
        due("at first", x.count(6), 1);
        x.chance(0, 1);
        due("one draw", x.count(6), 1103527590);
        x.chance(0, 1);
        due("two draws: it is an int", x.count(6), (int) (1103527590L * 1103515245L + 12345L));
        int[] seeds = {MIN, MAX, -1, 0, 12345, -1103515245};
        for (int v : seeds) {
            x.seed(v);
            x.chance(0, 1);
            due("a draw of " + v, x.count(6), (int) (v * 1103515245L + 12345L));
        }
        // One tool's day, and a run that doesn't spoil from that day alone: it tells which begin was drawn.
        int[] told = {1, 2, 3, 5, 77, -5, MIN, MAX, 1000};
        for (int v : told) {
            long z = (v * 1103515245L + 12345L) & 0xffffffffL;
            int begin = (int) ((z >> 8) % 60);
            for (int day = 0; day < 12; day++) {
                ToolDays y = from("round 12;tool 0 1 2 3 4 5 6 7 8 9 10 11;tool " + day + ";soon 0 1,1 1 wait 0");
                y.seed(v);
                due("the begin drawn from " + v + " is on day " + day, y.chance(0, 1), begin % 12 == day ? 1 : 0);
            }
        }
    }

    private static void spotsAndSheets() {
        of("SPOTS 0 to 9 hold a THING or nothing (at first).");
        ToolDays x = from("tool;plan 0 1");
        for (int k = 0; k < 10; k++) {
            due("as(" + k + ", 0)", x.as(k, 0), MISSING);
            due("hold(" + k + ", 0)", x.hold(k, 0), 1);
            due("as(" + k + ", 0)", x.as(k, 0), 0);
        }
        due("hold(-1, 0)", x.hold(-1, 0), BEYOND);
        due("hold(10, 0)", x.hold(10, 0), BEYOND);

        of("SHEETS 0 to 3: rows of at most 40 numbers of 8, 16 or 32 bits (told with their sign: of 8 bits 255 is -1), or MISSING (at first).");
        ToolDays y = from("tool;tool");
        for (int s = 0; s < 4; s++) {
            due("load(" + s + ")", y.load(s), MISSING);
            due("sheet(" + s + ", 8, 40)", y.sheet(s, 8, 40), 40);
        }
        due("sheet(4, 8, 1)", y.sheet(4, 8, 1), BEYOND);
        due("sheet(-1, 8, 1)", y.sheet(-1, 8, 1), BEYOND);
        // {bits, number, what load makes of it: DAYS, or -1 for a number that can't be}
        int[][] numbers = {{8, 127, 127}, {8, 128, -1}, {8, 255, -1}, {8, 256, 0}, {8, 383, 127}, {8, -1, -1}, {8, -256, 0}, {8, -255, 1},
            {16, 4095, 4095}, {16, 4096, -1}, {16, 32767, -1}, {16, 32768, -1}, {16, 65535, -1}, {16, 65536, 0}, {16, 69631, 4095},
            {16, -1, -1}, {16, -65536, 0}, {32, 4095, 4095}, {32, 65536, -1}, {32, -1, -1}, {32, MIN, -1}, {32, MAX, -1}};
        for (int[] n : numbers) {
            ToolDays z = from("tool 5;tool 6");
            z.sheet(0, n[0], 2);
            z.write(0, 0, n[1]);
            due(n[0] + " bits of " + n[1], z.load(0), n[2] < 0 ? 0 : 2);
            due(n[0] + " bits of " + n[1], z.days(0, 0), n[2] < 0 ? 32 : n[2]);
        }
    }

    // ---- promises 1 to 9

    private static void promises1To4() {
        of(1, "All as at first; no TOOLS, THINGS, ORDERS; THE TAPE is empty, no image is kept.");
        ToolDays x = new ToolDays();
        int[] counts = {7, -1, 0, 0, 0, 0, 1, 0};
        for (int k = 0; k < 8; k++) {
            due("count(" + k + ")", x.count(k), counts[k]);
        }
        due("status(-1)", x.status(-1), 0);
        due("tear()", x.tear(), 0);
        due("undo()", x.undo(), NONE);
        due("town() of an empty tape", x.town(), -1);
        for (int s = 0; s < 4; s++) {
            due("load(" + s + ")", x.load(s), MISSING);
        }

        of(2, "THE TAPE gets the n lowest bytes of a number behind it, the highest of these first (n 1 to 4): how many it has.");
        ToolDays y = new ToolDays();
        due("feed of 1", y.feed('n' | 0x41424300, 1), 1);
        due("feed of 2", y.feed('e' << 8 | 'a' | 0x41420000, 2), 3);
        due("feed of 3", y.feed('r' << 16 | ' ' << 8 | '1' | 0x41000000, 3), 6);
        due("feed of 4", y.feed('1' << 24 | ';' << 16 | ' ' << 8 | 't', 4), 10);
        due("feed of 3", y.feed('o' << 16 | 'o' << 8 | 'l', 3), 13);
        due("town()", y.town(), 2);
        due("count(1)", y.count(1), 11);
        ToolDays z = new ToolDays();
        z.feed(-1, 4);
        due("bytes of 255", z.town(), -1);

        of(2, "BEYOND: n. FULL.");
        ToolDays w = new ToolDays();
        for (int n : new int[] {MIN, -1, 0, 5, MAX}) {
            due("feed(0, " + n + ")", w.feed(0, n), BEYOND);
        }
        repeat(29, w, v -> v.feed(0, 4));
        due("117 bytes", w.feed(0, 1), 117);
        due("4 more", w.feed(0, 4), FULL);
        due("117 bytes", w.count(5), 117);
        due("3 more", w.feed(0, 3), 120);
        for (int n = 1; n <= 4; n++) {
            due(n + " more", w.feed(0, n), FULL);
        }

        of(3, "THE TAPE is empty: how many it had.");
        due("wipe() of 120", w.wipe(), 120);
        due("wipe() of 0", w.wipe(), 0);
        due("count(5)", w.count(5), 0);
        due("feed", w.feed(0, 4), 4);
    }

    private static void promise4() {
        of(4, "THE TAPE is a TEXT, and empty then; all that it tells is so, item by item: how many ITEMS.");
        ToolDays x = new ToolDays();
        due("items of one kind, the last one counts", read(x, "round 3;near 2;round 12;near 0;tool 11"), 5);
        due("count(5)", x.count(5), 0);
        due("count(0)", x.count(0), 12);
        due("count(1)", x.count(1), 0);
        due("may(0, 11)", x.may(0, 11), 2);
        due("one item", read(x, "tool"), 1);

        of(4, "With a FAULT: -1 less the FAULT (nothing changes but that THE TAPE is empty; no finding).");
        ToolDays y = from("round 9;near 8;tool 1;plan 0 1,0 2;order 0 due 3 worth 4");
        y.seed(5);
        y.hold(3, 0);
        due("a fault at 69", read(y, "round 2;near 1;tool 3;tool 4;soon 1 1;plan 2 2;order 1 due 9 worth 9;x"), -70);
        int[] counts = {9, 8, 1, 1, 1, 0, 5, 1};
        for (int k = 0; k < 8; k++) {
            due("count(" + k + ")", y.count(k), counts[k]);
        }
        due("status(-1)", y.status(-1), 0);
        due("days(0, 2)", y.days(0, 2), 2);
        due("thingOf(0, -1, 0)", y.thingOf(0, -1, 0), PLAN);
        due("thingOf(0, -2, 0)", y.thingOf(0, -2, 0), 2);
        due("orderOf(0, 2)", y.orderOf(0, 2), 4);
        due("a fault at 0", read(y, "x"), -1);
        due("the tape is empty", y.count(5), 0);
        due("a text behind it", read(y, "round 5"), 1);
        due("no finding", y.status(-1), 0);
    }

    private static void promises5To9() {
        of(5, "THE ROUND has n days: how many it had. BEYOND.");
        ranges("round", 7, new int[] {1, 12});
        of(6, "NEAR becomes v (-1 to 11): what it was. BEYOND.");
        ranges("near", -1, new int[] {-1, 11});
        of(7, "A new TOOL with DAYS (0 to 4095): its number. BEYOND. FULL.");
        ranges("tool", 3, new int[] {0, 4095});
        ToolDays x = new ToolDays();
        due("8 tools", repeat(8, x, y -> y.tool(4095)), 7);
        due("a 9th tool", x.tool(0), FULL);
        due("an 8th tool is there", x.may(7, 0), 2);
        due("a 9th isn't", x.may(8, 0), BEYOND);

        of(8, "DAYS of a TOOL become another set: what they were. BEYOND.");
        ranges("days", 33, new int[] {0, 2}, new int[] {0, 4095});
        ToolDays z = from("round 1;tool 0");
        due("days(0, 4095)", z.days(0, 4095), 1);
        due("bits that the round has not are told", z.days(0, 0), 4095);

        of(9, "Whether a TOOL MAY be used on a DAY (0 to 999): 2 if it MAY be, else 1 if it MAY be NEAR, else 0. BEYOND.");
        ranges("may", 2, new int[] {0, 2}, new int[] {0, 999});
        ToolDays w = from("tool 0 1;near 1");
        int[] may = {2, 2, 0, 0, 0, 0, 1, 2};
        for (int d = 0; d < 8; d++) {
            due("may(0, " + d + ")", w.may(0, d), may[d]);
        }
    }

    /** For ranges(): 3 tools of days 0 and 5, 2 things of 2 steps, 2 orders, spot 0, a sheet 0 of 3 numbers. */
    private static ToolDays ranged() {
        ToolDays x = from("tool 0 5;tool 0 5;tool 0 5;plan 0 1,1 1;soon 0 1,0 1;order 0 due 9 worth 5;order 1 due 9 worth 6");
        x.hold(0, 1);
        x.sheet(0, 8, 3);
        return x;
    }

    /**
     * Calls an act with each of its numbers at the ends of its range (the others at their low ends), where it
     * doesn't answer BEYOND, and just beyond these ends and far beyond them, where it does. With all numbers at
     * their low ends it answers what is due.
     */
    private static void ranges(String act, int low, int[]... ends) {
        int[] numbers = new int[ends.length];
        for (int p = 0; p < ends.length; p++) {
            numbers[p] = ends[p][0];
        }
        due(act + " at its low ends", call(act, numbers), low);
        for (int p = 0; p < ends.length; p++) {
            int[] far = {ends[p][0] - 1, ends[p][1] + 1, MIN, MAX, MIN + ends[p][0], -1000001};
            for (int v : far) {
                numbers[p] = v;
                due(act + ", number " + p + ": " + v, call(act, numbers), BEYOND);
            }
            for (int v : ends[p]) {
                numbers[p] = v;
                due(act + ", number " + p + ": " + v, call(act, numbers) == BEYOND ? 1 : 0, 0);
            }
            numbers[p] = ends[p][0];
        }
    }

    private static int call(String act, int[] numbers) {
        Object[] given = new Object[numbers.length];
        for (int k = 0; k < numbers.length; k++) {
            given[k] = numbers[k];
        }
        try {
            for (Method m : ToolDays.class.getMethods()) {
                if (m.getName().equals(act) && m.getParameterCount() == numbers.length) {
                    return (Integer) m.invoke(ranged(), given);
                }
            }
        } catch (ReflectiveOperationException e) {
            fault(act + " ended with " + e.getCause());
        }
        return MIN;
    }

    // ---- promises 10 to 14

    private static void promises10To14() {
        int[] twoSteps = {0, 1};
        of(10, "A new THING of a KIND with one STEP (WAIT 99): its number. BEYOND: kind, tool, hours. FULL.");
        ranges("thing", 2, new int[] {0, 6}, new int[] {0, 2}, new int[] {1, 8});
        ToolDays x = from("tool 1");
        due("8 things", repeat(8, x, y -> y.thing(LATE, 0, 8)), 7);
        due("a 9th thing", x.thing(0, 0, 1), FULL);
        due("one step", x.thingOf(7, -2, 0), 1);
        due("its WAIT", x.thingOf(7, 0, 2), 99);

        of(11, "One STEP more of a THING, the last one: how many. BEYOND. FULL: it has 8.");
        ranges("step", 3, new int[] {0, 1}, new int[] {0, 2}, new int[] {1, 8}, new int[] {0, 99});
        due("8 steps", repeat(7, x, y -> y.step(7, 0, 2, 3)), 8);
        due("a 9th step", x.step(7, 0, 2, 3), FULL);
        due("another thing has room", x.step(6, 0, 2, 3), 2);
        due("of the last step", x.thingOf(7, 7, 2), 3);

        of(12, "Of a THING: its KIND (i -1), how many STEPS (i -2). Of STEP i: what 0 TOOL, 1 HOURS, 2 WAIT.");
        ToolDays z = from("tool;tool;batch 1 8 wait 98,0 7 wait 0");
        int[] told = {BATCH, 2, 1, 8, 98, 0, 7, 0};
        int[][] asks = {{-1, 0}, {-2, 0}, {0, 0}, {0, 1}, {0, 2}, {1, 0}, {1, 1}, {1, 2}};
        for (int k = 0; k < told.length; k++) {
            due("thingOf(0, " + asks[k][0] + ", " + asks[k][1] + ")", z.thingOf(0, asks[k][0], asks[k][1]), told[k]);
        }

        of(12, "BEYOND (what isn't looked at for i below 0; i below -2).");
        for (int what : new int[] {-1, 3, MIN, MAX}) {
            due("thingOf(0, -1, " + what + ")", z.thingOf(0, -1, what), BATCH);
            due("thingOf(0, -2, " + what + ")", z.thingOf(0, -2, what), 2);
            due("thingOf(0, 0, " + what + ")", z.thingOf(0, 0, what), BEYOND);
        }
        due("thingOf(0, -3, 0)", z.thingOf(0, -3, 0), BEYOND);
        due("thingOf(0, 2, 0)", z.thingOf(0, 2, 0), BEYOND);
        for (int thing : new int[] {-1, 1, MIN, MAX}) {
            for (int i = -3; i <= 2; i++) {
                due("thingOf(" + thing + ", " + i + ", 0)", z.thingOf(thing, i, 0), BEYOND);
            }
        }
        due("thingOf(0, MIN, 0)", z.thingOf(0, MIN, 0), BEYOND);
        due("thingOf(0, MAX, 0)", z.thingOf(0, MAX, 0), BEYOND);

        of(13, "A THING is of another KIND: what it was. BEYOND.");
        ranges("turn", PLAN, new int[] {0, 1}, new int[] {0, 6});
        due("turn to the same kind", z.turn(0, BATCH), BATCH);

        of(14, "TOOL (what 0), HOURS (1), WAIT (2) of STEP i of a THING becomes v: what it was. BEYOND.");
        ranges("change", 0, new int[] {0, 1}, twoSteps, new int[] {0, 0}, new int[] {0, 2});
        promise14();
    }

    private static void promise14() {
        int[][] ends = {{0, 1}, {1, 8}, {0, 99}};
        for (int what = 0; what < 3; what++) {
            ToolDays x = from("tool;tool;plan 1 5 wait 6,1 5 wait 6");
            int was = new int[] {1, 5, 6}[what];
            due("below", x.change(0, 1, what, ends[what][0] - 1), BEYOND);
            due("above", x.change(0, 1, what, ends[what][1] + 1), BEYOND);
            due("the least", x.change(0, 1, what, ends[what][0]), was);
            due("the greatest", x.change(0, 1, what, ends[what][1]), ends[what][0]);
            due("it is so", x.thingOf(0, 1, what), ends[what][1]);
            due("the other step stays", x.thingOf(0, 0, what), was);
            due("no such step", x.change(0, 2, what, ends[what][0]), BEYOND);
            due("i -1", x.change(0, -1, what, ends[what][0]), BEYOND);
            due("no such thing", x.change(1, 0, what, ends[what][0]), BEYOND);
        }
        ToolDays y = from("tool;plan 0 1");
        due("what 3", y.change(0, 0, 3, 1), BEYOND);
        due("what -1", y.change(0, 0, -1, 1), BEYOND);
        due("what MAX", y.change(0, 0, MAX, 1), BEYOND);
    }

    // ---- promises 15 to 21

    private static void promises15To17() {
        of(15, "NEXT of STEP i of a THING behind a DAY (0 to 999). BEYOND. NONE.");
        ranges("next", 0, new int[] {0, 1}, new int[] {0, 1}, new int[] {0, 999});
        ToolDays x = from("tool 0;tool;plan 0 1,1 1");
        due("NONE", x.next(0, 1, 0), NONE);
        due("behind day 999", x.next(0, 0, 999), 1001);

        of(16, "The DAY of STEP i in the RUN from a begin (0 to 999). BEYOND. NONE: it SPOILS (at any STEP).");
        ranges("run", 0, new int[] {0, 1}, new int[] {0, 999}, new int[] {0, 1});
        due("it spoils at a later step", x.run(0, 0, 0), NONE);
        due("it spoils at this step", x.run(0, 0, 1), NONE);
        x.days(1, 2);
        due("it doesn't", x.run(0, 0, 0), 0);
        due("it doesn't", x.run(0, 0, 1), 1);
        x.change(0, 1, 2, 0);
        due("it spoils by its WAIT", x.run(0, 0, 0), NONE);

        of(17, "At which STEP the RUN from a begin (0 to 999) SPOILS. BEYOND. NONE: it doesn't.");
        ranges("spoils", NONE, new int[] {0, 1}, new int[] {0, 999});
        due("by its WAIT", x.spoils(0, 0), 1);
        x.days(0, 0);
        due("at step 0", x.spoils(0, 0), 0);
        ToolDays z = from("tool 0;tool;soon 0 1,0 1,0 1,0 1,0 1,0 1,0 1,1 1");
        due("at the last one of 8", z.spoils(0, 0), 7);
        z.days(1, 1);
        due("it doesn't", z.spoils(0, 0), NONE);
    }

    private static void promises18To21() {
        of(18, "READY from a DAY (0 to 999) on. BEYOND. NONE.");
        ranges("ready", 5, new int[] {0, 1}, new int[] {0, 999});
        ToolDays x = from("tool 0;tool;plan 0 1,1 1");
        due("NONE", x.ready(0, 0), NONE);

        of(19, "BEGUN from a DAY (0 to 999) on. BEYOND. NONE.");
        ranges("begun", 0, new int[] {0, 1}, new int[] {0, 999});
        due("NONE", x.begun(0, 0), NONE);

        of(20, "The latest begin (0 to day) of a RUN that doesn't SPOIL and is done on a DAY (0 to 400) or ahead. BEYOND. NONE.");
        ranges("latest", NONE, new int[] {0, 1}, new int[] {0, 400});
        ToolDays z = from("tool 0;soon 0 1,0 1;tool 2;plan 1 1,0 1 wait 5");
        due("begin 0 for day 0", z.latest(0, 0), 0);
        due("begin 0 for day 6", z.latest(0, 6), 0);
        due("done on the day itself: begin of that day", z.latest(0, 7), 7);
        due("day 400, which is day 1: the day ahead of it", z.latest(0, 400), 399);
        due("done on day 7", z.latest(1, 7), 2);
        due("day 6 is too early", z.latest(1, 6), NONE);
        due("the one of day 9 would be done on 14", z.latest(1, 13), 2);
        due("the one of day 9 is done on 14", z.latest(1, 14), 9);
        due("NONE", x.latest(0, 400), NONE);

        of(21, "The most DAYS between two STEPS of the RUN that is READY from a DAY (0 to 999) on (0 with one STEP). BEYOND. NONE.");
        ranges("waits", 5, new int[] {0, 1}, new int[] {0, 999});
        due("one step", from("tool 3;plan 0 1").waits(0, 0), 0);
        due("all on one day", z.waits(0, 1), 0);
        ToolDays w = from("tool 0;tool 2;tool 5;plan 0 1,1 1,2 1,0 1");
        due("2, 3 and 2 days", w.waits(0, 0), 3);
        due("of 8 steps", from("tool 0;soon 0 1,0 1,0 1,0 1,0 1,0 1,0 1,0 1;plan 0 8").waits(0, 0), 0);
        due("of 8 steps", from("tool 0;plan 0 1,0 1,0 1,0 1,0 1,0 1,0 1,0 1;plan 0 8").waits(0, 0), 7);
        due("the last two of 8 steps", from("tool 0;tool 5;soon 0 1,0 1,0 1,0 1,0 1,0 1,0 1,1 1").waits(0, 0), 5);
        due("NONE", x.waits(0, 0), NONE);
        // From day 0 on the run of begin 0 spoils (2 days), that of begin 1 is 1 day apart.
        due("of the run that is ready, not of one that spoils", from("tool 0 1;tool 2;plan 0 1,1 1 wait 1").waits(0, 0), 1);
    }

    // ---- promises 22 to 26

    private static void promises22To24() {
        of(22, "A new ORDER: its number. BEYOND. FULL.");
        ranges("order", 2, new int[] {0, 1}, new int[] {0, 399}, new int[] {1, 99});
        ToolDays x = from("tool 0;plan 0 1");
        due("5 orders", repeat(5, x, y -> y.order(0, 399, 99)), 4);
        due("a 6th order", x.order(0, 399, 99), FULL);
        due("5 orders", x.count(4), 5);

        of(23, "Of an ORDER: what 0 THING, 1 DUE, 2 WORTH. BEYOND.");
        ranges("orderOf", 0, new int[] {0, 1}, new int[] {0, 2});
        due("the last one", x.orderOf(4, 1), 399);

        of(24, "All ORDERS are gone: how many there were.");
        due("clear() of 5", x.clear(), 5);
        due("clear() of none", x.clear(), 0);
        due("gone", x.orderOf(0, 0), BEYOND);
        due("gone", x.taken(0, 1, 0), BEYOND);
        due("gone", x.best(0), 0);
        due("numbers from 0 on", x.order(0, 0, 1), 0);
    }

    private static void promise25() {
        of(25, "ORDERS in a sequence (digits by 10, the first ORDER the highest; each at most once, not all need be there)");
        // One order a day, on days 1, 8, 15, .. of a tool: whichever comes first has day 1.
        ToolDays x = from("tool 1;plan 0 8;order 0 due 1 worth 1;order 0 due 1 worth 2;order 0 due 1 worth 4", "order 0 due 1 worth 8;order 0 due 1 worth 16");
        int[][] firsts = {{1234, 5, 0}, {10234, 5, 1}, {43210, 5, 4}, {40, 2, 4}, {4, 2, 0}, {4, 1, 4}, {321, 3, 3}, {12, 3, 0}};
        for (int[] f : firsts) {
            due("taken(" + f[0] + ", " + f[1] + ", 1)", x.taken(f[0], f[1], 1), 1 << f[2]);
            due("taken(" + f[0] + ", " + f[1] + ", 0)", x.taken(f[0], f[1], 0), 1 << f[2]);
        }

        of(25, "what 0 WORTHS of those IN TIME, 1 these, as a set, 2 the DAY of the last STEP of all that are made (-1: none), 3 + k HOURS that TOOL k has in all.");
        ToolDays y = from("tool 1;tool 3;plan 0 8;plan 1 5", "order 0 due 8 worth 10;order 0 due 8 worth 20;order 1 due 3 worth 40;order 0 due 14 worth 80");
        due("no places: worths", y.taken(0, 0, 0), 0);
        due("no places: set", y.taken(0, 0, 1), 0);
        due("no places: day", y.taken(0, 0, 2), -1);
        due("no places: hours", y.taken(0, 0, 3), 0);
        due("worths of all but the one that isn't in time", y.taken(1023, 4, 0), 70);
        due("these, as a set", y.taken(1023, 4, 1), 0b0111);
        due("another one isn't in time", y.taken(3021, 4, 0), 130);
        due("these, as a set", y.taken(3021, 4, 1), 0b1101);
        due("one", y.taken(0, 1, 2), 1);
        due("the greatest day, not that of the last one", y.taken(12, 3, 2), 8);
        due("one that isn't made", y.taken(13, 3, 2), 8);
        due("tool 0", y.taken(12, 3, 3), 16);
        due("tool 1", y.taken(12, 3, 4), 5);
        due("tool 1 has none", y.taken(1, 2, 4), 0);
        due("one that isn't made takes none", y.taken(13, 3, 3), 16);
        due("none in time", from("tool;plan 0 1;order 0 due 399 worth 1").taken(0, 1, 2), -1);
        due("tool 7", from("tool;tool;tool;tool;tool;tool;tool;tool 0;plan 7 8;order 0 due 0 worth 1").taken(0, 1, 10), 8);

        of(25, "BEYOND: digits (below 0, no such ORDER, one twice; how many places, 0 to 5: a 0 ahead is told by that), what.");
        due("digits -1", y.taken(-1, 1, 0), BEYOND);
        due("digits MIN", y.taken(MIN, 5, 0), BEYOND);
        due("digits MAX", y.taken(MAX, 5, 0), BEYOND);
        due("order 4 of 4", y.taken(4, 1, 0), BEYOND);
        due("order 3 of 4", y.taken(3, 1, 0), 80);
        due("order 9", y.taken(9, 1, 0), BEYOND);
        due("one twice", y.taken(11, 2, 0), BEYOND);
        due("one twice, apart", y.taken(121, 3, 0), BEYOND);
        due("0 twice: a 0 ahead", y.taken(0, 2, 0), BEYOND);
        due("0 twice: a 0 ahead", y.taken(10, 3, 0), BEYOND);
        due("0 ahead of 1", y.taken(1, 2, 1), 3);
        due("1 alone", y.taken(1, 1, 1), 2);
        due("places -1", y.taken(0, -1, 0), BEYOND);
        due("places 0", y.taken(0, 0, 0), 0);
        due("places 4", y.taken(123, 4, 0), 70);
        due("places 5, of 4 orders", y.taken(1234, 5, 0), BEYOND);
        due("places 6", y.taken(0, 6, 0), BEYOND);
        due("places MAX", y.taken(0, MAX, 0), BEYOND);
        due("places MIN", y.taken(0, MIN, 0), BEYOND);
        due("more digits than places", y.taken(10, 1, 0), BEYOND);
        due("a digit without a place", y.taken(1, 0, 0), BEYOND);
        due("what -1", y.taken(0, 1, -1), BEYOND);
        due("what 4", y.taken(0, 1, 4), 0);
        due("what 5: no tool 2", y.taken(0, 1, 5), BEYOND);
        due("what MAX", y.taken(0, 1, MAX), BEYOND);
        due("what MIN", y.taken(0, 1, MIN), BEYOND);
    }

    private static void promise26() {
        of(26, "THE BEST SEQUENCE: what 0 WORTHS, 1 ORDERS IN TIME, as a set, 2 the sequence as digits.");
        ranges("best", 11, new int[] {0, 2});
        ToolDays x = from("tool 1;plan 0 8");
        due("no orders: worths", x.best(0), 0);
        due("no orders: set", x.best(1), 0);
        due("no orders: digits", x.best(2), 0);
        x.order(0, 0, 99);
        due("one, not in time: worths", x.best(0), 0);
        due("one, not in time: set", x.best(1), 0);
        due("one, not in time: digits", x.best(2), 0);
        x.clear();
        for (int k = 0; k < 5; k++) {
            x.order(0, 29 - 7 * k, 99);
        }
        due("the last of all sequences: worths", x.best(0), 495);
        due("the last of all sequences: set", x.best(1), 31);
        due("the last of all sequences: digits", x.best(2), 43210);
        x.clear();
        x.order(0, 399, 1);
        x.order(0, 399, 1);
        due("a 0 ahead", x.best(2), 1);
    }

    // ---- promises 27 to 34

    private static void promises27To30() {
        of(27, "MOST of a THING. BEYOND.");
        ranges("most", 16, new int[] {0, 1});
        of(28, "CHOKES of a THING. BEYOND.");
        ranges("chokes", 0, new int[] {0, 1});

        of(29, "Days of THE ROUND on which none of a set of TOOLS MAY be used, as a set. BEYOND.");
        ranges("idle", 127, new int[] {0, 7});
        ToolDays x = from("round 12;near 1;tool 0;tool 11;tool 1 2;tool");
        due("no tools", x.idle(0), 4095);
        due("tool 0 (not near)", x.idle(1), 4094);
        due("tools 0 and 1", x.idle(3), 2046);
        due("all", x.idle(15), 2040);
        due("no such tool", x.idle(16), BEYOND);
        x.round(1);
        due("a round of 1", x.idle(2), 1);
        due("a round of 1", x.idle(1), 0);
        repeat(4, x, y -> y.tool(4095));
        due("8 tools", x.idle(255), 0);
        due("9 tools", x.idle(256), BEYOND);
        due("none of no tools", new ToolDays().idle(1), BEYOND);

        of(30, "all DAYS of one TOOL k go on by t (1 to THE ROUND less 1) days within THE ROUND (those that it has not fall off), so that a THING is READY soonest from DAY 0 on: 100 k and t");
        due("by 1, within the round: day 6 to 0", from("tool 6;plan 0 1").turned(0), 1);
        due("by 6: day 1 to 0", from("tool 1;plan 0 1").turned(0), 6);
        due("by 11: day 1 to 0", from("round 12;tool 1;plan 0 1").turned(0), 11);
        due("days 7 and 8 fall off: day 5 to 0, not day 7 by 1", from("tool 5 7 8;plan 0 1").turned(0), 2);
        due("the last tool", from("tool;tool;tool;tool;tool;tool;tool;tool 2;plan 7 1").turned(0), 705);
        // 5, 6: tool 0 on day 0 to 4 leaves 6; tool 1 on day 0 makes it 7; so none is sooner.
        due("the other tool keeps it", from("tool 5;tool 6;plan 0 1,1 1").turned(0), 0);
        // 3, 8: tool 1 on day 4 makes it 4; tool 0 on day 0 makes it 1.
        due("soonest of all", from("tool 3;tool 1;plan 0 1,1 1").turned(0), 4);
        due("of several days 4, 5, 6 by one the least t: day 6 by 1", from("tool 4 5 6;plan 0 1").turned(0), 1);
        ranges("turned", 101, new int[] {0, 1});

        of(30, "0, if none makes it sooner (or READY at all). BEYOND.");
        due("ready on day 0 as it is", from("tool 0;plan 0 1").turned(0), 0);
        due("never ready", from("tool;plan 0 1").turned(0), 0);
        due("a round of 1", from("round 1;tool 0;plan 0 1,0 1").turned(0), 0);
        // Tool 1 from day 3 to day 1: both steps on that day.
        due("ready by a turn alone", from("tool 1;tool 3;soon 0 1,1 1 wait 1").turned(0), 105);
        due("no tool of it", from("tool 0;tool 3;plan 0 1").turned(0), 0);
        ToolDays z = from("tool 6 11;plan 0 1");
        z.turned(0);
        due("nothing changes", z.days(0, 0), set(6, 11));
    }

    private static void promises31To34() {
        of(31, "THE ROUND (1 to 12) with which a THING is READY soonest from a DAY (0 to 999) on. BEYOND. NONE: with none.");
        ranges("roundFor", 1, new int[] {0, 1}, new int[] {0, 999});
        due("the least", from("tool 0;plan 0 1").roundFor(0, 1), 1);
        due("the greatest", from("tool 11;plan 0 1").roundFor(0, 0), 12);
        due("from day 999, which is day 9 of 10 and of 11", from("tool 9;plan 0 1").roundFor(0, 999), 10);
        due("none", from("tool;plan 0 1").roundFor(0, 0), NONE);
        ToolDays x = from("tool 11;plan 0 1");
        x.roundFor(0, 0);
        due("nothing changes", x.count(0), 7);

        of(32, "NEAR (-1 to 11) with which a THING is READY soonest from a DAY (0 to 999) on. BEYOND. NONE.");
        ranges("nearFor", -1, new int[] {0, 1}, new int[] {0, 999});
        due("none is as good as any", from("tool 3;plan 0 1").nearFor(0, 0), -1);
        due("NEAR 0 is as good as none", from("tool 0;walked 0 1").nearFor(0, 0), -1);
        // NEAR is above d: from day 0 on the soonest is day 1, and day 1 and 10 are day 11.
        due("10, the greatest that can be the only one", from("round 12;tool 11;walked 0 1").nearFor(0, 0), 10);
        due("day 5 and 7 are day 0", from("round 12;tool 0;walked 0 1").nearFor(0, 4), 7);
        due("day 12 itself", from("round 12;tool 0;walked 0 1").nearFor(0, 12), -1);
        due("day 1000, which is day 4, and 8 are day 0", from("round 12;tool 0;walked 0 1").nearFor(0, 999), 8);
        due("3 and 10 are the same in a round of 7", from("tool 3;walked 0 1").nearFor(0, 6), 3);
        due("none", from("tool;walked 0 1").nearFor(0, 0), NONE);
        ToolDays y = from("near 5;tool 3;walked 0 1");
        y.nearFor(0, 0);
        due("nothing changes", y.count(1), 5);

        of(33, "n (1 to 40) begins are drawn (the rest by 60): how many of them have a RUN that doesn't SPOIL. BEYOND.");
        ranges("chance", 1, new int[] {0, 1}, new int[] {1, 40});
        promise33();

        of(34, "z becomes v: what it was.");
        ToolDays w = new ToolDays();
        due("seed(MIN)", w.seed(MIN), 1);
        due("seed(MAX)", w.seed(MAX), MIN);
        due("seed(0)", w.seed(0), MAX);
        due("count(6)", w.count(6), 0);
    }

    private static void promise33() {
        ToolDays x = from("tool;plan 0 1");
        due("none of 40", x.chance(0, 40), 0);
        int z = 1;
        for (int k = 0; k < 40; k++) {
            z = z * 1103515245 + 12345;
        }
        due("40 draws", x.count(6), z);
        x.days(0, 1);
        due("all of 40", x.chance(0, 40), 40);
        // In a round of 11 the rest by 60 matters: day 0 of it are the begins 0, 11, 22, 33, 44, 55.
        ToolDays y = from("round 11;tool 0 1 2 3 4 5 6 7 8 9 10;tool 0;soon 0 1,1 1 wait 0");
        z = 99;
        int good = 0;
        for (int k = 0; k < 40; k++) {
            z = z * 1103515245 + 12345;
            good += (z >>> 8) % 60 % 11 == 0 ? 1 : 0;
        }
        y.seed(99);
        due("begins up to 59", y.chance(0, 40), good);
    }

    // ---- promises 35 to 41

    private static void promises35And36() {
        of(35, "A SPOT holds a THING, or nothing (-1): 1. BEYOND.");
        ranges("hold", 1, new int[] {0, 9}, new int[] {-1, 1});
        ToolDays x = from("tool;plan 0 1;late 0 1");
        due("hold(9, 1)", x.hold(9, 1), 1);
        due("as(9, 6)", x.as(9, LATE), 1);
        due("hold(9, 0): another one", x.hold(9, 0), 1);
        due("as(9, 0)", x.as(9, PLAN), 0);
        due("hold(9, -1)", x.hold(9, -1), 1);
        due("nothing", x.as(9, PLAN), MISSING);
        due("hold(9, -1) again", x.hold(9, -1), 1);
        due("count(7)", x.count(7), 0);

        of(36, "What a SPOT holds as one of a kind (0 to 6): the number of the THING. BEYOND. MISSING: it holds nothing. KIND: it isn't of that kind, nor of one under it.");
        ranges("as", 1, new int[] {0, 9}, new int[] {0, 6});
        x.hold(0, 1);
        due("its own kind", x.as(0, LATE), 1);
        due("the kind above", x.as(0, BATCH), 1);
        due("the kind above that", x.as(0, PLAN), 1);
        due("another kind", x.as(0, ROUNDED), KIND);
        x.turn(1, BATCH);
        due("a kind under it", x.as(0, LATE), KIND);
        x.turn(1, WALKED);
        due("as BEST", x.as(0, BEST), KIND);
        due("as SOON", x.as(0, SOON), 1);
        due("another spot holds nothing", x.as(1, LATE), MISSING);
    }

    private static void promises37And38() {
        of(37, "A sheet has n numbers, all 0, of 8, 16 or 32 bits; bits 0: it is MISSING: n (0 if it is MISSING).");
        for (int bits : new int[] {8, 16, 32}) {
            ToolDays x = from("tool 5;tool 5;tool 5");
            due("sheet(3, " + bits + ", 0)", x.sheet(3, bits, 0), 0);
            due("no numbers, but there", x.load(3), 0);
            due("sheet(3, " + bits + ", 40)", x.sheet(3, bits, 40), 40);
            due("write(3, 39, 1)", x.write(3, 39, 1), 1);
            x.write(3, 0, 1);
            x.write(3, 1, 1);
            x.write(3, 2, 1);
            due("sheet(3, " + bits + ", 3)", x.sheet(3, bits, 3), 3);
            due("all 0", x.load(3), 3);
            for (int k = 0; k < 3; k++) {
                due("all 0", x.days(k, 0), 0);
            }
            due("sheet(3, 0, 7)", x.sheet(3, 0, 7), 0);
            due("MISSING", x.load(3), MISSING);
            due("sheet(3, 0, 0)", x.sheet(3, 0, 0), 0);
        }

        of(37, "BEYOND: no such sheet, other bits. SIZE: n is below 0 (also with bits 0). BEYOND: n is above 40 (also with bits 0).");
        ToolDays y = new ToolDays();
        for (int bits : new int[] {-8, -1, 1, 7, 9, 15, 17, 24, 31, 33, 64, MIN, MAX}) {
            due("bits " + bits, y.sheet(0, bits, 1), BEYOND);
        }
        for (int s : new int[] {-1, 4, MIN, MAX}) {
            due("sheet " + s, y.sheet(s, 8, 1), BEYOND);
        }
        for (int bits : new int[] {0, 8, 16, 32}) {
            due("n -1", y.sheet(0, bits, -1), SIZE);
            due("n MIN", y.sheet(0, bits, MIN), SIZE);
            due("n 41", y.sheet(0, bits, 41), BEYOND);
            due("n MAX", y.sheet(0, bits, MAX), BEYOND);
            due("n 40", y.sheet(0, bits, 40), bits == 0 ? 0 : 40);
        }

        of(38, "Number i of a sheet becomes v (its lowest bits): 1. BEYOND: no such sheet. MISSING. BEYOND: no such number.");
        ToolDays z = from("tool 5;tool 5");
        due("MISSING", z.write(0, 0, 1), MISSING);
        z.sheet(0, 8, 2);
        due("write(0, 2, 1)", z.write(0, 2, 1), BEYOND);
        due("write(0, -1, 1)", z.write(0, -1, 1), BEYOND);
        due("write(0, MAX, 1)", z.write(0, MAX, 1), BEYOND);
        due("write(0, MIN, 1)", z.write(0, MIN, 1), BEYOND);
        due("write(4, 0, 1)", z.write(4, 0, 1), BEYOND);
        due("write(-1, 0, 1)", z.write(-1, 0, 1), BEYOND);
        due("write(0, 1, 0x7f03)", z.write(0, 1, 0x7f03), 1);
        due("load(0)", z.load(0), 2);
        due("its lowest bits", z.days(1, 0), 3);
        z.sheet(0, 8, 0);
        due("of no numbers", z.write(0, 0, 1), BEYOND);
    }

    /** Numbers of a sheet of 5 as the days of 5 tools, by tens. */
    private static int shown(ToolDays x, int s) {
        x.load(s);
        int told = 0;
        for (int k = 0; k < 5; k++) {
            told = told * 10 + x.days(k, 0);
        }
        return told;
    }

    /** Sheets 0 and 1 with 1 to 5 and 0 of 16 bits, 2 with 0 of 32 bits, 3 MISSING. */
    private static ToolDays copied() {
        ToolDays x = from("tool;tool;tool;tool;tool");
        x.sheet(0, 16, 5);
        x.sheet(1, 16, 5);
        x.sheet(2, 32, 5);
        for (int k = 0; k < 5; k++) {
            x.write(0, k, k + 1);
        }
        return x;
    }

    private static void promise39() {
        of(39, "n numbers of a sheet from one on come to another one from one on (as they all were): n.");
        int[][] copies = {{0, 1, 1, 0, 3, 23400}, {0, 0, 1, 0, 5, 12345}, {0, 4, 1, 4, 1, 5}, {0, 0, 1, 4, 1, 1}, {0, 5, 1, 5, 0, 0},
            {0, 0, 0, 1, 4, 11234}, {0, 1, 0, 0, 4, 23455}, {0, 0, 0, 2, 3, 12123}, {0, 2, 0, 2, 3, 12345}, {0, 0, 0, 0, 0, 12345}};
        for (int[] c : copies) {
            ToolDays x = copied();
            due("copy(" + c[0] + ", " + c[1] + ", " + c[2] + ", " + c[3] + ", " + c[4] + ")", x.copy(c[0], c[1], c[2], c[3], c[4]), c[4]);
            due("what is there then", shown(x, c[2]), c[5]);
            due("what was copied", c[0] == c[2] ? 12345 : shown(x, c[0]), 12345);
        }

        of(39, "BEYOND: no such sheet (either). MISSING: one is. KIND: they are not of as many bits. BEYOND: one has not so many, or from, to or n is below 0.");
        int[][] findings = {{4, 0, 0, 0, 1, BEYOND}, {-1, 0, 0, 0, 1, BEYOND}, {0, 0, 4, 0, 1, BEYOND}, {0, 0, -1, 0, 1, BEYOND},
            {MAX, 0, 0, 0, 1, BEYOND}, {0, 0, MIN, 0, 1, BEYOND}, {3, 0, 0, 0, 1, MISSING}, {0, 0, 3, 0, 1, MISSING}, {3, 0, 3, 0, 0, MISSING},
            {0, 0, 2, 0, 1, KIND}, {2, 0, 0, 0, 1, KIND}, {2, 0, 1, 0, 0, KIND}, {0, 0, 1, 0, 6, BEYOND}, {0, 1, 1, 0, 5, BEYOND},
            {0, 0, 1, 1, 5, BEYOND}, {0, 5, 1, 0, 1, BEYOND}, {0, 0, 1, 5, 1, BEYOND}, {0, -1, 1, 0, 1, BEYOND}, {0, 0, 1, -1, 1, BEYOND},
            {0, 0, 1, 0, -1, BEYOND}, {0, 6, 1, 0, 0, BEYOND}, {0, 0, 1, 6, 0, BEYOND}, {0, 5, 1, 5, -5, BEYOND}, {0, MAX, 1, 0, MAX, BEYOND},
            {0, 1, 1, 0, MAX, BEYOND}, {0, MAX, 1, MAX, 1, BEYOND}, {0, MIN, 1, 0, MIN, BEYOND}, {0, 0, 1, MIN, 0, BEYOND}};
        for (int[] f : findings) {
            ToolDays x = copied();
            String call = "copy(" + f[0] + ", " + f[1] + ", " + f[2] + ", " + f[3] + ", " + f[4] + ")";
            due(call, x.copy(f[0], f[1], f[2], f[3], f[4]), f[5]);
            due(call + " changes nothing", shown(x, 0), 12345);
            due(call + " changes nothing", shown(x, 1), 0);
        }
        ToolDays y = copied();
        y.sheet(1, 16, 3);
        due("the other one is shorter", y.copy(0, 0, 1, 0, 4), BEYOND);
        due("the one is shorter", y.copy(1, 0, 0, 0, 4), BEYOND);
        due("as many as the shorter one has", y.copy(0, 2, 1, 0, 3), 3);
    }

    private static void promise40() {
        of(40, "Numbers of a sheet, from its begin on, become DAYS of TOOLS 0, 1, ..: how many came.");
        ToolDays x = from("tool 5;tool 5;tool 5");
        x.sheet(0, 16, 2);
        x.write(0, 0, 4095);
        due("as many as there are numbers", x.load(0), 2);
        due("4095", x.days(0, 5), 4095);
        due("0", x.days(1, 5), 0);
        due("no number", x.days(2, 5), 32);

        of(40, "It ends at the first that isn't 0 to 4095, or for which there is no TOOL. BEYOND: no such sheet. MISSING.");
        x.sheet(0, 16, 4);
        due("as many as there are tools", x.load(0), 3);
        x.write(0, 1, 4096);
        x.days(2, 77);
        due("4096", x.load(0), 1);
        due("what is behind it doesn't come", x.days(2, 0), 77);
        x.write(0, 1, -1);
        due("-1", x.load(0), 1);
        x.write(0, 0, -1);
        due("none", x.load(0), 0);
        due("no tools", loadWithoutTools(), 0);
        for (int s : new int[] {-1, 4, MIN, MAX}) {
            due("load(" + s + ")", x.load(s), BEYOND);
        }
        due("MISSING", x.load(3), MISSING);
    }

    private static int loadWithoutTools() {
        ToolDays x = new ToolDays();
        x.sheet(0, 8, 5);
        return x.load(0);
    }

    private static void judged(String text, int want, int... numbers) {
        ToolDays x = from(text);
        x.sheet(0, 32, numbers.length);
        StringBuilder call = new StringBuilder(text).append(" judged by");
        for (int k = 0; k < numbers.length; k++) {
            x.write(0, k, numbers[k]);
            call.append(' ').append(numbers[k]);
        }
        due(call.toString(), x.judge(0, 0), want);
    }

    private static void promise41() {
        of(41, "0 if there are as many as STEPS, the first one is 0 to 999, and NEXT of STEP 0 behind it is that DAY, and each other one is NEXT behind the one ahead, and not more than its WAIT behind it; else 1 more than how many, from the first on, are right.");
        String plan = "tool 1 2;tool 4;plan 0 1 wait 0,1 1 wait 2,0 1 wait 4";
        judged(plan, 0, 2, 4, 8);
        judged(plan, 3, 2, 4);
        judged(plan, 4, 2, 4, 8, 9);
        judged(plan, 4, 2, 4, 8, 15);
        judged(plan, 1);
        judged(plan, 1, 3, 4, 8);
        judged(plan, 2, 1, 4, 8); // 3 days, a WAIT of 2
        judged(plan, 2, 2, 11, 15); // not NEXT
        judged(plan, 3, 2, 4, 9);
        judged(plan, 3, 2, 4, -1);
        judged("tool 1 2;tool 4;plan 0 1 wait 0,1 1 wait 2,0 1 wait 3", 3, 2, 4, 8); // 4 days, a WAIT of 3
        String daily = "round 1;tool 0;plan 0 1,0 1";
        judged(daily, 0, 0, 1);
        judged(daily, 0, 999, 1000);
        judged(daily, 1, 1000, 1001);
        judged(daily, 1, -1, 0);
        judged(daily, 1, MIN, MIN + 1);
        judged(daily, 1, MAX, MIN);
        judged("tool;plan 0 1", 1, -1);
        judged("tool 0;tool;plan 0 1,1 1", 2, 0, -1);
        judged("tool 0;tool;plan 0 1,1 1", 2, 0, NONE);
        judged("tool 3;rounded 0 1", 1, 3); // behind day 3 it is day 10
        judged("tool 0;rounded 0 1", 0, 7);
        judged("tool 3;near 1;walked 0 1,0 1", 1, 2, 3); // NEAR is above d alone
        judged("tool 3;near 1;walked 0 1,0 1", 0, 3, 3);
        judged("tool 3;best 0 1", 0, 7);
        judged("tool 3;batch 0 1,0 1 wait 0", 0, 3, 3);
        judged("tool 3;late 0 1,0 1 wait 7", 0, 3, 10);
        judged("tool 3;late 0 1,0 1 wait 6", 2, 3, 10);
        judged("tool 2;soon 0 1,0 1", 3, 2, 2, 2);
        String eight = "tool 2;soon 0 1,0 1,0 1,0 1,0 1,0 1,0 1,0 1;soon 0 1";
        judged(eight, 0, 2, 2, 2, 2, 2, 2, 2, 2);
        judged(eight, 8, 2, 2, 2, 2, 2, 2, 2, 9);
        judged(eight, 8, 2, 2, 2, 2, 2, 2, 2);
        judged(eight, 9, 2, 2, 2, 2, 2, 2, 2, 2, 2);

        of(41, "BEYOND: no such sheet. MISSING. BEYOND: no such THING.");
        ranges("judge", 2, new int[] {0, 3}, new int[] {0, 1});
        ToolDays x = from("tool 0;plan 0 1");
        due("MISSING", x.judge(1, 0), MISSING);
        due("MISSING ahead of no such thing", x.judge(1, 1), MISSING);
        due("no such sheet ahead", x.judge(4, 1), BEYOND);
        x.sheet(1, 8, 0);
        due("no such thing", x.judge(1, 1), BEYOND);
        due("thing -1", x.judge(1, -1), BEYOND);
    }

    // ---- promises 42 to 46

    private static void promises42To44() {
        of(42, "All but THE TAPE and SHEETS is kept: 1.");
        ToolDays x = from("round 9;near 4;tool 1;plan 0 1,0 2 wait 3;order 0 due 3 worth 4");
        x.seed(55);
        x.hold(2, 0);
        x.sheet(0, 8, 1);
        x.feed(0, 3);
        due("image()", x.image(), 1);
        read(x, "x");
        read(x, "round 3;near 0;tool 5;soon 1 1;order 1 due 9 worth 9");
        x.days(0, 8);
        x.turn(0, LATE);
        x.change(0, 1, 0, 1);
        x.change(0, 1, 1, 8);
        x.change(0, 1, 2, 8);
        x.step(0, 0, 1, 1);
        x.clear();
        x.order(1, 1, 1);
        x.order(1, 1, 1);
        x.seed(66);
        x.hold(2, -1);
        x.hold(3, 1);
        x.hold(4, 1);
        x.sheet(0, 16, 4);
        x.feed(0, 2);
        due("undo()", x.undo(), 1);
        int[] counts = {9, 4, 1, 1, 1, 2, 55, 1};
        for (int k = 0; k < 8; k++) {
            due("count(" + k + ")", x.count(k), counts[k]);
        }
        due("DAYS", x.days(0, 2), 2);
        int[] steps = {PLAN, 2, 0, 2, 3};
        int[][] asks = {{-1, 0}, {-2, 0}, {1, 0}, {1, 1}, {1, 2}};
        for (int k = 0; k < 5; k++) {
            due("thingOf(0, " + asks[k][0] + ", " + asks[k][1] + ")", x.thingOf(0, asks[k][0], asks[k][1]), steps[k]);
        }
        due("order", x.orderOf(0, 0) * 100 + x.orderOf(0, 1) * 10 + x.orderOf(0, 2), 34);
        due("spot", x.as(2, 0), 0);
        due("the sheet isn't kept", x.write(0, 3, 1), 1);

        imageOfFullTown();

        of(43, "It becomes what was kept latest (which stays): how many THINGS. NONE: nothing is kept.");
        ToolDays y = from("tool 0");
        due("nothing is kept", y.undo(), NONE);
        due("image()", y.image(), 1);
        y.thing(0, 0, 1);
        due("no things", y.undo(), 0);
        y.thing(0, 0, 1);
        due("it stays", y.undo(), 0);
        repeat(8, y, z -> z.thing(0, 0, 1));
        y.image();
        y.turn(0, LATE);
        due("the latest, 8 things", y.undo(), 8);
        due("the latest", y.thingOf(0, -1, 0), PLAN);
        y.turn(0, LATE);
        due("what is done behind undo() isn't in it", y.undo(), 8);
        due("the latest", y.thingOf(0, -1, 0), PLAN);

        of(44, "Nothing is kept: 1 if something was, else 0.");
        due("something", y.tear(), 1);
        due("nothing", y.tear(), 0);
        due("NONE", y.undo(), NONE);
        due("the town stays", y.count(3), 8);
        y.image();
        due("something again", y.tear(), 1);
    }

    /** 8 tools, 8 things of 8 steps, 5 orders, 9 spots that hold something; an image of it is kept. */
    private static ToolDays fullTown() {
        ToolDays x = new ToolDays();
        for (int k = 0; k < 8; k++) {
            x.tool(k + 1);
        }
        for (int k = 0; k < 8; k++) {
            x.thing(k % 7, k, 8 - k);
            for (int i = 1; i < 8; i++) {
                x.step(k, (k + i) % 8, i, 10 * k + i);
            }
        }
        for (int k = 0; k < 5; k++) {
            x.order(7 - k, 50 + k, 60 + k);
        }
        for (int k = 0; k < 10; k++) {
            x.hold(k, k < 9 ? k % 8 : -1);
        }
        x.image();
        return x;
    }

    private static void imageOfFullTown() {
        ToolDays x = fullTown();
        for (int k = 0; k < 8; k++) {
            x.days(k, 99);
            x.turn(k, (k + 3) % 7);
            for (int i = 0; i < 8; i++) {
                x.change(k, i, (k + i) % 3, 1 + (k + i) % 3);
            }
        }
        x.clear();
        repeat(5, x, y -> y.order(1, 1, 1));
        for (int k = 0; k < 10; k++) {
            x.hold(k, 6);
        }
        due("undo() of 8 things", x.undo(), 8);
        String is = look(x);
        String was = look(fullTown());
        if (!is.equals(was)) {
            fault("undo() of a full town made " + is + " of " + was);
        }
    }

    private static void promises45And46() {
        of(45, "0 days of THE ROUND, 1 NEAR, 2 TOOLS, 3 THINGS, 4 ORDERS, 5 bytes of THE TAPE, 6 z, 7 SPOTS that hold something.");
        ToolDays x = from("round 12;near 11");
        repeat(8, x, y -> y.tool(0));
        repeat(8, x, y -> y.thing(0, 0, 1));
        repeat(5, x, y -> y.order(0, 0, 1));
        repeat(30, x, y -> y.feed(0, 4));
        x.seed(MIN);
        for (int spot = 0; spot < 10; spot++) {
            x.hold(spot, spot % 8);
        }
        int[] most = {12, 11, 8, 8, 5, 120, MIN, 10};
        for (int k = 0; k < 8; k++) {
            due("count(" + k + ") at its most", x.count(k), most[k]);
        }

        of(45, "BEYOND: another what.");
        ranges("count", 7, new int[] {0, 7});

        of(46, "How many acts answered a finding ever (undo() takes none back): which -1: all, 0 to 6: BEYOND to SIZE.");
        ToolDays z = from("tool 0;plan 0 1");
        z.image();
        z.hold(0, 0);
        repeat(6, z, y -> y.round(13));
        repeat(7 + 5, z, y -> y.tool(0));
        repeat(4, z, y -> y.as(0, SOON));
        repeat(3, z, y -> y.spoils(0, 0));
        repeat(2, z, y -> y.load(0));
        repeat(1, z, y -> y.sheet(0, 0, -1));
        int[] found = {6, 5, 4, 3, 0, 2, 1};
        for (int pass = 0; pass < 2; pass++) {
            due("all", z.status(-1), 21);
            for (int k = 0; k < 7; k++) {
                due("status(" + k + ")", z.status(k), found[k]);
            }
            due("undo()", z.undo(), 1);
        }

        of(46, "BEYOND (counted from then on): another one.");
        due("status(7)", z.status(7), BEYOND);
        due("counted", z.status(0), 7);
        due("status(-2)", z.status(-2), BEYOND);
        due("status(MIN)", z.status(MIN), BEYOND);
        due("status(MAX)", z.status(MAX), BEYOND);
        due("counted", z.status(0), 10);
        due("counted", z.status(-1), 25);
    }

    private static void terms() {
        findings();
        orderOfFindings();
        refusedCalls();
        callsThatTell();
        quotientsAndSets();
        roundAndTools();
        daysBeyondTheRound();
        near();
        things();
        nextOfPlanSoonRounded();
        nextOfBatchAndLate();
        nextOfWalkedAndBest();
        nextIsLookedFor();
        runs();
        ready();
        orders();
        begins();
        inTime();
        mostAndChokes();
        tokens();
        items();
        itemsWithNumbers();
        faults();
        draws();
        spotsAndSheets();
    }

    private static void promises() {
        promises1To4();
        promise4();
        promises5To9();
        promises10To14();
        promises15To17();
        promises18To21();
        promises22To24();
        promise25();
        promise26();
        promises27To30();
        promises31To34();
        promises35And36();
        promises37And38();
        promise39();
        promise40();
        promise41();
        promises42To44();
        promises45And46();
    }

    public static void main(String[] args) throws Exception {
        document = Files.readString(Path.of("../shared/DOC.md"));
        terms();
        promises();
        sentence = "Promise 1 to 46";
        for (int k = 1; k <= 46; k++) {
            if (!promises.contains(k)) {
                fault("no sentence of promise " + k);
            }
        }
        System.out.println(sentences + " sentences, " + asked + " answers asked, " + wrong + " not as due");
        if (wrong != 0) {
            System.exit(1);
        }
    }
}
