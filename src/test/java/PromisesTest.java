/** Each promise of the document by itself: ordinary calls, the edges that it names, wrong inputs. */
public final class PromisesTest {
    private static final int BEYOND = -1000001;
    private static final int FULL = -1000002;
    private static final int KIND = -1000003;
    private static final int NONE = -1000004;
    private static final int MISSING = -1000006;
    private static final int SIZE = -1000007;
    private static final int[] WRONG = {Integer.MIN_VALUE, -1000, -3, 4096, 1000, Integer.MAX_VALUE};

    private static final int PLAN = 0;
    private static final int SOON = 1;
    private static final int ROUNDED = 2;
    private static final int BATCH = 3;
    private static final int WALKED = 4;
    private static final int BEST = 5;
    private static final int LATE = 6;

    private static int wrong = 0;
    private static int asked = 0;

    private static void due(String what, int got, int want) {
        asked++;
        if (got != want) {
            wrong++;
            System.out.println(what + " answered " + got + ", due is " + want);
        }
    }

    /** A town read from a text, told whole. */
    private static ToolDays from(String text) {
        ToolDays x = new ToolDays();
        int items = read(x, text);
        if (items < 1) {
            due("the text '" + text + "'", items, 1);
        }
        return x;
    }

    private static int read(ToolDays x, String text) {
        for (int k = 0; k < text.length(); k++) {
            x.feed(text.charAt(k), 1);
        }
        return x.town();
    }

    private static int days(int... days) {
        int set = 0;
        for (int d : days) {
            set |= 1 << d;
        }
        return set;
    }

    private static void promise1NewObject() {
        ToolDays x = new ToolDays();
        int[] atFirst = {7, -1, 0, 0, 0, 0, 1, 0};
        for (int k = 0; k < atFirst.length; k++) {
            due("1: count(" + k + ")", x.count(k), atFirst[k]);
        }
        due("1: status(-1)", x.status(-1), 0);
        due("1: undo()", x.undo(), NONE);
        for (int k = 0; k < 10; k++) {
            due("1: as(" + k + ", 0)", x.as(k, 0), MISSING);
        }
        for (int k = 0; k < 4; k++) {
            due("1: load(" + k + ")", x.load(k), MISSING);
        }
        ToolDays y = new ToolDays();
        y.tool(1);
        due("1: objects share nothing", x.count(2), 0);
    }

    private static void promise2Feed() {
        ToolDays x = new ToolDays();
        // "near 2": the highest of the n lowest bytes comes first, higher ones don't count.
        due("2: feed of 4", x.feed(0x6e656172, 4), 4);
        due("2: feed of 2", x.feed(0x7f7f2032, 2), 6);
        due("2: town()", x.town(), 1);
        due("2: count(1)", x.count(1), 2);
        due("2: feed(1, 0)", x.feed(1, 0), BEYOND);
        due("2: feed(1, 5)", x.feed(1, 5), BEYOND);
        for (int n : WRONG) {
            due("2: feed(1, " + n + ")", x.feed(1, n), BEYOND);
        }
        for (int k = 1; k <= 39; k++) {
            due("2: feed", x.feed(0x20202020, 3), 3 * k);
        }
        due("2: feed that doesn't fit", x.feed(0, 4), FULL);
        due("2: FULL keeps nothing", x.count(5), 117);
        due("2: feed that just fits", x.feed(0, 3), 120);
        due("2: feed of a full tape", x.feed(0, 1), FULL);
        due("2: BEYOND ahead of FULL", x.feed(0, 0), BEYOND);
    }

    private static void promise3Wipe() {
        ToolDays x = new ToolDays();
        due("3: wipe() of nothing", x.wipe(), 0);
        x.feed(-1, 4);
        x.feed(-1, 3);
        due("3: wipe()", x.wipe(), 7);
        due("3: count(5)", x.count(5), 0);
        due("3: wiped bytes are gone", read(x, "round 3"), 1);
    }

    private static void promise4Town() {
        ToolDays x = new ToolDays();
        due("4: a text", read(x, " round 5;near 0 ; tool;tool 0 3 11;late1 8wait0,0 1 ; order 0 due 399 worth 99 "), 6);
        due("4: round", x.count(0), 5);
        due("4: near", x.count(1), 0);
        due("4: tools", x.count(2), 2);
        due("4: tool 0", x.days(0, 0), 0);
        due("4: tool 1", x.days(1, 0), days(0, 3, 11));
        due("4: kind", x.thingOf(0, -1, 0), LATE);
        int[][] steps = {{1, 8, 0}, {0, 1, 99}};
        for (int i = 0; i < 2; i++) {
            for (int w = 0; w < 3; w++) {
                due("4: step " + i + ", " + w, x.thingOf(0, i, w), steps[i][w]);
            }
        }
        due("4: order's thing", x.orderOf(0, 0), 0);
        due("4: order's due", x.orderOf(0, 1), 399);
        due("4: order's worth", x.orderOf(0, 2), 99);
        due("4: the tape is empty then", x.count(5), 0);
        due("4: numbers with zeros ahead", read(x, "round 0000000000012;near 011"), 2);
        due("4: round", x.count(0), 12);
        String[] kinds = {"plan", "soon", "rounded", "batch", "walked", "best", "late"};
        for (int k = 0; k < 7; k++) {
            due("4: " + kinds[k], read(x, kinds[k] + " 0 1"), 1);
            due("4: " + kinds[k], x.thingOf(k + 1, -1, 0), k);
        }
    }

    private static void promise4Faults() {
        String[] texts = {"", "   ", ";", "round", "round ", "round 7;", "round 7 7", "round x", "round,", "Round 7",
            "round 13", "round 0", "round 4294967297", "rounds 7", "near 12", "near;", "tool 0,1", "tool 0 0",
            "tool 3 2", "tool 12", "plan", "plan 0 1", "wait 1", "round 7\t", "round 7 #", "near 1;;near 1",
            "order 0 due 1 worth 1", "round 7; tool 0 1 2 3 4 5 6 7 8 9 10 11 12", "near 1 ; ", "nearz 1", "neara 1", "bound 3"};
        int[] faults = {0, 3, 0, 5, 6, 8, 8, 6, 5, 0,
            6, 6, 6, 0, 5, 4, 6, 7,
            7, 5, 4, 5, 0, 7, 8, 7,
            6, 40, 9, 0, 0, 0};
        for (int k = 0; k < texts.length; k++) {
            ToolDays x = new ToolDays();
            due("4: '" + texts[k] + "'", read(x, texts[k]), -1 - faults[k]);
            due("4: nothing changes", x.count(0) * 100 + x.count(1) * 10 + x.count(2), 690);
            due("4: the tape is empty", x.count(5), 0);
            due("4: a fault is no finding", x.status(-1), 0);
        }
        String[] behind = {"plan 1 1", "plan 0 9", "plan 0 0", "plan 0", "plan 0 1 wait", "plan 0 1 wait 100",
            "plan 0 1 wait 1 wait 1", "plan 0 1,", "plan 0 1 1", "plan 0 1 due", "plan 0,1",
            "plan 0 1;order 1 due 1 worth 1", "plan 0 1;order 0 worth 1", "plan 0 1;order 0 due 400 worth 1",
            "plan 0 1;order 0 due 1 worth 0", "plan 0 1;order 0 due 1 worth 100", "plan 0 1;order 0 due 1",
            "soon 0 1,0 1,0 1,0 1,0 1,0 1,0 1,0 1,0 1", "plan 0 1#0 1", "plan 0 1:", "plan 0/1"};
        int[] at = {5, 7, 7, 6, 13, 14, 16, 9, 9, 9, 6, 15, 17, 21, 29, 29, 22, 36, 8, 8, 6};
        for (int k = 0; k < behind.length; k++) {
            ToolDays x = new ToolDays();
            due("4: 'tool;" + behind[k] + "'", read(x, "tool;" + behind[k]), -6 - at[k]);
            due("4: nothing changes", x.count(2) + x.count(3) + x.count(4), 0);
        }
    }

    private static void promise4Limits() {
        ToolDays x = from("tool;tool;tool;tool;tool;tool;tool");
        due("4: an 8th tool, not a 9th", read(x, "tool 1; tool 2"), -9);
        due("4: nothing of it is there", x.count(2), 7);
        due("4: an 8th tool", read(x, "tool 1"), 1);
        due("4: a 9th tool", read(x, "tool 99"), -1);
        due("4: 7 things", read(x, "plan 0 1;plan 0 1;plan 0 1;plan 0 1;plan 0 1;plan 0 1;plan 0 1"), 7);
        due("4: a 9th thing", read(x, "soon 7 8;soon"), -10);
        due("4: an 8th thing", read(x, "soon 7 8"), 1);
        due("4: 5 orders", read(x, "order 7 due 0 worth 1;order 7 due 0 worth 1;order 7 due 0 worth 1;"
            + "order 7 due 0 worth 1"), 4);
        due("4: a 6th order", read(x, "order 0 due 0 worth 1; order x"), -24);
        due("4: orders", x.count(4), 4);
        due("4: a full tape of blanks", read(new ToolDays(), " ".repeat(120)), -121);
        due("4: a full tape of digits", read(new ToolDays(), "near " + "9".repeat(115)), -6);
        due("4: a full tape of zeros", read(new ToolDays(), "near " + "0".repeat(115)), 1);
        due("4: a full tape of letters", read(new ToolDays(), "n".repeat(120)), -1);
        ToolDays y = from("tool;plan 0 1,0 1,0 1,0 1,0 1,0 1,0 1,0 1");
        due("4: 8 steps", y.thingOf(0, -2, 0), 8);
    }

    private static void promises5To9Town() {
        ToolDays x = new ToolDays();
        due("5: round(12)", x.round(12), 7);
        due("5: round(1)", x.round(1), 12);
        due("5: round(0)", x.round(0), BEYOND);
        due("5: round(13)", x.round(13), BEYOND);
        due("5: round(7)", x.round(7), 1);
        due("6: near(11)", x.near(11), -1);
        due("6: near(12)", x.near(12), BEYOND);
        due("6: near(-2)", x.near(-2), BEYOND);
        due("6: near(-1)", x.near(-1), 11);
        due("6: near(0)", x.near(0), -1);
        due("7: tool(-1)", x.tool(-1), BEYOND);
        due("7: tool(4096)", x.tool(4096), BEYOND);
        for (int k = 0; k < 8; k++) {
            due("7: tool", x.tool(k == 7 ? 4095 : k), k);
        }
        due("7: a 9th tool", x.tool(0), FULL);
        due("7: BEYOND ahead of FULL", x.tool(4096), BEYOND);
        due("8: days(7, 0)", x.days(7, 0), 4095);
        due("8: days(7, 4095)", x.days(7, 4095), 0);
        due("8: days(8, 0)", x.days(8, 0), BEYOND);
        due("8: days(-1, 0)", x.days(-1, 0), BEYOND);
        due("8: days(0, 4096)", x.days(0, 4096), BEYOND);
        due("8: days(0, -1)", x.days(0, -1), BEYOND);
        promise9May();
    }

    private static void promise9May() {
        ToolDays x = new ToolDays();
        x.tool(days(2, 6, 8));
        x.near(3);
        // Day 8 of a set is none of a round of 7: days 2 and 6; near 3: days 6 and 3.
        int[] want = {0, 0, 2, 1, 0, 0, 2};
        for (int d = 0; d < 21; d++) {
            due("9: may(0, " + d + ")", x.may(0, d), want[d % 7]);
        }
        due("9: may(0, 999)", x.may(0, 999), want[999 % 7]);
        due("9: may(0, 1000)", x.may(0, 1000), BEYOND);
        due("9: may(0, -1)", x.may(0, -1), BEYOND);
        due("9: may(1, 0)", x.may(1, 0), BEYOND);
        x.near(-1);
        due("9: without NEAR", x.may(0, 3), 0);
        x.near(0);
        due("9: NEAR 0", x.may(0, 2), 2);
    }

    private static void promises10To14Things() {
        ToolDays x = from("tool 0;tool 1");
        due("10: thing(7, 0, 1)", x.thing(7, 0, 1), BEYOND);
        due("10: thing(-1, 0, 1)", x.thing(-1, 0, 1), BEYOND);
        due("10: thing(0, 2, 1)", x.thing(0, 2, 1), BEYOND);
        due("10: thing(0, 0, 0)", x.thing(0, 0, 0), BEYOND);
        due("10: thing(0, 0, 9)", x.thing(0, 0, 9), BEYOND);
        for (int k = 0; k < 8; k++) {
            due("10: thing", x.thing(k % 7, 1, 8), k);
        }
        due("10: a 9th thing", x.thing(0, 0, 1), FULL);
        due("10: BEYOND ahead of FULL", x.thing(0, 0, 9), BEYOND);
        due("10: its WAIT", x.thingOf(6, 0, 2), 99);
        due("11: step(8, 0, 1, 0)", x.step(8, 0, 1, 0), BEYOND);
        due("11: step(0, 2, 1, 0)", x.step(0, 2, 1, 0), BEYOND);
        due("11: step(0, 0, 9, 0)", x.step(0, 0, 9, 0), BEYOND);
        due("11: step(0, 0, 1, 100)", x.step(0, 0, 1, 100), BEYOND);
        due("11: step(0, 0, 1, -1)", x.step(0, 0, 1, -1), BEYOND);
        for (int k = 2; k <= 8; k++) {
            due("11: step", x.step(0, 0, k, 10 * k), k);
        }
        due("11: a 9th step", x.step(0, 0, 1, 0), FULL);
        due("11: BEYOND ahead of FULL", x.step(0, 0, 0, 0), BEYOND);
        due("12: kind", x.thingOf(5, -1, 77), BEST);
        due("12: steps", x.thingOf(0, -2, -9), 8);
        due("12: TOOL", x.thingOf(0, 0, 0), 1);
        due("12: HOURS", x.thingOf(0, 7, 1), 8);
        due("12: WAIT", x.thingOf(0, 7, 2), 80);
        due("12: another what", x.thingOf(0, 7, 3), BEYOND);
        due("12: i -3", x.thingOf(0, -3, 0), BEYOND);
        due("12: i 8", x.thingOf(0, 8, 0), BEYOND);
        due("12: no such step", x.thingOf(1, 1, 0), BEYOND);
        due("12: no such thing", x.thingOf(8, -1, 0), BEYOND);
        due("13: turn(0, 6)", x.turn(0, 6), PLAN);
        due("13: turn(0, 2)", x.turn(0, 2), LATE);
        due("13: turn(0, 7)", x.turn(0, 7), BEYOND);
        due("13: turn(8, 0)", x.turn(8, 0), BEYOND);
        promise14Change(x);
    }

    private static void promise14Change(ToolDays x) {
        due("14: TOOL", x.change(0, 1, 0, 1), 0);
        due("14: HOURS", x.change(0, 1, 1, 8), 2);
        due("14: WAIT", x.change(0, 1, 2, 0), 20);
        for (int w = 0; w < 3; w++) {
            due("14: it is so", x.thingOf(0, 1, w), new int[] {1, 8, 0}[w]);
        }
        due("14: no such tool", x.change(0, 1, 0, 2), BEYOND);
        due("14: 0 hours", x.change(0, 1, 1, 0), BEYOND);
        due("14: 9 hours", x.change(0, 1, 1, 9), BEYOND);
        due("14: wait 100", x.change(0, 1, 2, 100), BEYOND);
        due("14: wait -1", x.change(0, 1, 2, -1), BEYOND);
        due("14: another what", x.change(0, 1, 3, 1), BEYOND);
        due("14: no such step", x.change(1, 1, 2, 1), BEYOND);
        due("14: i -1", x.change(1, -1, 2, 1), BEYOND);
        due("14: no such thing", x.change(8, 0, 2, 1), BEYOND);
    }

    private static void promise15Next() {
        // Tool 0 on days 2 and 5, tool 1 on day 4, tool 2 on no day, tool 3 on a day that no round of 7 has.
        ToolDays x = from("tool 2 5;tool 4;tool;tool 8;plan 0 1,0 1,1 1,2 1,3 1");
        int[][] want = {
            // step 0 behind 0, 2, 3; step 1 (same tool) behind 2, 3; step 2 (another tool) behind 2, 3, 4
            {2, 2, 5, 5, 5, 4, 4, 11}, // PLAN
            {2, 2, 5, 2, 5, 4, 4, 4}, // SOON
            {2, 9, 9, 5, 5, 4, 4, 11}, // ROUNDED
            {2, 2, 5, 2, 3, 4, 4, 11}, // BATCH
            {2, 2, 5, 2, 5, 4, 4, 4}, // WALKED without NEAR
            {2, 2, 5, 2, 5, 4, 4, 4}, // BEST, not the last step
            {2, 2, 5, 5, 5, 4, 11, 11}, // LATE
        };
        int[] step = {0, 0, 0, 1, 1, 2, 2, 2};
        int[] behind = {0, 2, 3, 2, 3, 2, 3, 4};
        for (int kind = 0; kind < 7; kind++) {
            x.turn(0, kind);
            for (int k = 0; k < step.length; k++) {
                due("15: kind " + kind + " next(0, " + step[k] + ", " + behind[k] + ")",
                    x.next(0, step[k], behind[k]), want[kind][k]);
            }
            due("15: a tool without days", x.next(0, 3, 0), NONE);
            due("15: kind " + kind + " last step", x.next(0, 4, 3), kind == BEST ? 7 : NONE);
        }
        due("15: no such thing", x.next(1, 0, 0), BEYOND);
        due("15: no such step", x.next(0, 5, 0), BEYOND);
        due("15: i -1", x.next(0, -1, 0), BEYOND);
        due("15: day -1", x.next(0, 0, -1), BEYOND);
        due("15: day 1000", x.next(0, 0, 1000), BEYOND);
        due("15: day 999, which is day 5", x.next(0, 0, 999), 999);
        promise15Near();
    }

    private static void promise15Near() {
        ToolDays x = from("tool 2 5;near 1;walked 0 1,0 1;best 0 1,0 1;soon 0 1,0 1");
        // NEAR 1: also days 1 and 4, but only above d.
        int[] walked = {1, 2, 2, 4, 5, 5, 8};
        int[] best = {0, 2, 2, 4, 5, 5, 7};
        int[] soon = {2, 2, 2, 5, 5, 5, 9};
        for (int d = 0; d < 7; d++) {
            due("15: WALKED behind " + d, x.next(0, 1, d), walked[d]);
            due("15: WALKED step 0 behind " + d, x.next(0, 0, d), walked[d]);
            due("15: BEST behind " + d, x.next(1, 1, d), best[d]);
            due("15: BEST step 0 behind " + d, x.next(1, 0, d), walked[d]);
            due("15: SOON behind " + d, x.next(2, 1, d), soon[d]);
        }
        x.step(1, 0, 1, 99);
        due("15: BEST, no more the last", x.next(1, 1, 0), 1);
        due("15: BEST, a new last", x.next(1, 2, 0), 0);
        ToolDays y = from("tool 0;best 0 1;late 0 1,0 1;near 7");
        due("15: BEST with one step", y.next(0, 0, 1), 7);
        due("15: LATE behind d and 1", y.next(1, 1, 6), 14);
        due("15: LATE behind d and 1", y.next(1, 1, 5), 7);
        y.turn(1, WALKED);
        due("15: NEAR of a whole round", y.next(1, 1, 0), 0);
    }

    private static void promises16And17Runs() {
        ToolDays x = from("tool 1;tool 3;tool 0;plan 0 1,1 1 wait 2,2 1 wait 3");
        // Day 1, 3, 7: 4 days between the last two.
        due("17: it spoils at 2", x.spoils(0, 0), 2);
        due("16: a step ahead of that", x.run(0, 0, 0), NONE);
        x.change(0, 2, 2, 4);
        due("17: 4 days are no more than 4", x.spoils(0, 0), NONE);
        due("16: day of step 0", x.run(0, 0, 0), 1);
        due("16: day of step 1", x.run(0, 0, 1), 3);
        due("16: day of step 2", x.run(0, 0, 2), 7);
        due("16: from 999", x.run(0, 999, 2), 1008);
        x.change(0, 1, 2, 1);
        due("17: it spoils at 1", x.spoils(0, 0), 1);
        x.change(0, 0, 2, 0);
        due("17: the WAIT of step 0 counts nothing", x.spoils(0, 2), 1);
        x.days(0, 0);
        due("17: there is no NEXT", x.spoils(0, 0), 0);
        due("16: there is no NEXT", x.run(0, 0, 0), NONE);
        ToolDays y = from("round 1;tool 0;late 0 1,0 1 wait 2");
        due("16: a round of 1", y.run(0, 5, 1), 7);
        due("16: begin -1", x.run(0, -1, 0), BEYOND);
        due("16: begin 1000", x.run(0, 1000, 0), BEYOND);
        due("16: i 3", x.run(0, 0, 3), BEYOND);
        due("16: i -1", x.run(0, 0, -1), BEYOND);
        due("16: no such thing", x.run(1, 0, 0), BEYOND);
        due("17: begin -1", x.spoils(0, -1), BEYOND);
        due("17: begin 1000", x.spoils(0, 1000), BEYOND);
        due("17: no such thing", x.spoils(1, 0), BEYOND);
    }

    private static void promises18To21Ready() {
        // From day 0 on: 1, 5: 4 days; from day 2 on: 4, 5: 1 day.
        ToolDays x = from("tool 1 4;tool 5;plan 0 1,1 1 wait 1;soon 1 1;plan 0 1,1 1,0 1");
        due("18: ready(0, 0)", x.ready(0, 0), 5);
        due("19: begun(0, 0)", x.begun(0, 0), 2);
        due("18: ready(0, 5)", x.ready(0, 5), 12);
        due("19: begun(0, 5)", x.begun(0, 5), 9);
        due("18: ready(0, 999)", x.ready(0, 999), 999 / 7 * 7 + 12);
        due("19: begun(0, 999)", x.begun(0, 999), 999 / 7 * 7 + 9);
        due("20: latest(0, 5)", x.latest(0, 5), 4);
        due("20: latest(0, 4)", x.latest(0, 4), NONE);
        due("20: latest(0, 30)", x.latest(0, 30), 25);
        due("20: latest(0, 400)", x.latest(0, 400), 396);
        due("20: latest(1, 5)", x.latest(1, 5), 5);
        due("20: latest(1, 0)", x.latest(1, 0), NONE);
        due("21: waits(0, 0)", x.waits(0, 0), 1);
        due("21: one step", x.waits(1, 0), 0);
        due("21: waits(2, 0)", x.waits(2, 0), 4);
        due("21: waits(2, 2)", x.waits(2, 2), 3);
        x.change(0, 1, 2, 0);
        due("20: day 0", from("tool 0;plan 0 1").latest(0, 6), 0);
        due("20: a tool without days", from("tool;plan 0 1").latest(0, 6), NONE);
        due("18: none", x.ready(0, 0), NONE);
        due("19: none", x.begun(0, 0), NONE);
        due("20: none", x.latest(0, 400), NONE);
        due("21: none", x.waits(0, 0), NONE);
        int[] days = {-1, 1000, Integer.MAX_VALUE, Integer.MIN_VALUE};
        for (int d : days) {
            due("18: day " + d, x.ready(0, d), BEYOND);
            due("19: day " + d, x.begun(0, d), BEYOND);
            due("20: day " + d, x.latest(0, d), BEYOND);
            due("21: day " + d, x.waits(0, d), BEYOND);
        }
        due("20: day 401", x.latest(0, 401), BEYOND);
        due("18: no such thing", x.ready(3, 0), BEYOND);
        due("19: no such thing", x.begun(3, 0), BEYOND);
        due("20: no such thing", x.latest(3, 0), BEYOND);
        due("21: no such thing", x.waits(-1, 0), BEYOND);
    }

    private static void promises22To24Orders() {
        ToolDays x = from("tool 1;plan 0 1");
        due("22: due 400", x.order(0, 400, 1), BEYOND);
        due("22: due -1", x.order(0, -1, 1), BEYOND);
        due("22: worth 0", x.order(0, 0, 0), BEYOND);
        due("22: worth 100", x.order(0, 0, 100), BEYOND);
        due("22: no such thing", x.order(1, 0, 1), BEYOND);
        for (int k = 0; k < 5; k++) {
            due("22: order", x.order(0, k == 4 ? 399 : k, k == 4 ? 99 : k + 1), k);
        }
        due("22: a 6th order", x.order(0, 0, 1), FULL);
        due("22: BEYOND ahead of FULL", x.order(0, 0, 0), BEYOND);
        due("23: THING", x.orderOf(4, 0), 0);
        due("23: DUE", x.orderOf(4, 1), 399);
        due("23: WORTH", x.orderOf(4, 2), 99);
        due("23: another what", x.orderOf(4, 3), BEYOND);
        due("23: what -1", x.orderOf(4, -1), BEYOND);
        due("23: no such order", x.orderOf(5, 0), BEYOND);
        due("23: order -1", x.orderOf(-1, 0), BEYOND);
        due("24: clear()", x.clear(), 5);
        due("24: they are gone", x.orderOf(0, 0), BEYOND);
        due("24: clear() of nothing", x.clear(), 0);
        due("24: numbers begin again", x.order(0, 0, 1), 0);
    }

    private static void promise25Taken() {
        // One tool, on day 1 of each round; 5 hours each: one order a day.
        ToolDays x = from("tool 1;plan 0 5;order 0 due 8 worth 10;order 0 due 1 worth 7;order 0 due 7 worth 4");
        due("25: no places", x.taken(0, 0, 0), 0);
        due("25: no places, set", x.taken(0, 0, 1), 0);
        due("25: no places, day", x.taken(0, 0, 2), -1);
        due("25: no places, hours", x.taken(0, 0, 3), 0);
        due("25: 0 alone", x.taken(0, 1, 2), 1);
        due("25: 01, worths", x.taken(1, 2, 0), 10);
        due("25: 01, set", x.taken(1, 2, 1), 1);
        due("25: 10, worths", x.taken(10, 2, 0), 17);
        due("25: 10, set", x.taken(10, 2, 1), 3);
        due("25: 10, day", x.taken(10, 2, 2), 8);
        due("25: 10, hours", x.taken(10, 2, 3), 10);
        due("25: one that isn't made takes no hours", x.taken(120, 3, 0), 17);
        due("25: 120, hours", x.taken(120, 3, 3), 10);
        due("25: 210, set", x.taken(210, 3, 1), 5);
        due("25: one twice", x.taken(11, 2, 0), BEYOND);
        due("25: no such order", x.taken(3, 1, 0), BEYOND);
        due("25: below 0", x.taken(-1, 1, 0), BEYOND);
        due("25: places -1", x.taken(0, -1, 0), BEYOND);
        due("25: places 6", x.taken(0, 6, 0), BEYOND);
        due("25: more digits than places", x.taken(12, 1, 0), BEYOND);
        due("25: a digit, but no place", x.taken(1, 0, 0), BEYOND);
        due("25: what -1", x.taken(0, 1, -1), BEYOND);
        due("25: no such tool", x.taken(0, 1, 4), BEYOND);
        due("25: great digits", x.taken(Integer.MAX_VALUE, 5, 0), BEYOND);
        promise25Hours();
        promise25Begins();
    }

    /** Two orders have a tool's first 16 days; a third one has to begin on a day behind these, up to 200. */
    private static void promise25Begins() {
        String long8 = "plan 1 8,1 8,1 8,1 8,1 8,1 8,1 8,1 8;plan 0 1,1 1 wait 1";
        ToolDays x = from("round 12;tool 7 8;tool 9;" + long8);
        ToolDays y = from("round 12;tool 8 9;tool 10;" + long8);
        for (int k = 0; k < 3; k++) {
            x.order(k / 2, 399, k + 1);
            y.order(k / 2, 399, k + 1);
        }
        due("25: a begin of 200", x.taken(12, 3, 1), 7);
        due("25: its day", x.taken(12, 3, 2), 201);
        due("25: not one of 201", y.taken(12, 3, 1), 3);
        due("25: its day", y.taken(12, 3, 2), 190);
        due("25: hours of tool 1", y.taken(12, 3, 4), 128);
        due("25: a tool without days", from("tool;plan 0 1;order 0 due 9 worth 1").taken(0, 1, 2), -1);
    }

    private static void promise25Hours() {
        ToolDays x = from("tool 0;batch 0 4,0 4;order 0 due 399 worth 1;batch 0 4,0 5;order 1 due 399 worth 2");
        due("25: 8 hours on one day", x.taken(0, 1, 2), 0);
        due("25: 9 hours on one day never fit", x.taken(1, 1, 2), -1);
        x.turn(1, PLAN);
        due("25: on two days they do", x.taken(1, 1, 2), 7);
        due("25: a full day is passed over", x.taken(1, 2, 2), 14);
        due("25: hours of both", x.taken(1, 2, 3), 17);
        ToolDays y = from("round 12;tool 0;rounded 0 8;order 0 due 0 worth 1;order 0 due 11 worth 2");
        due("25: due on the day", y.taken(0, 1, 1), 1);
        due("25: late", y.taken(1, 2, 1), 1);
        // A step that is done near takes hours as well: 8 on day 1 are those of the walked one.
        ToolDays z = from("tool 2;near 1;walked 0 8;order 0 due 9 worth 1;order 0 due 9 worth 1;order 0 due 9 worth 1");
        due("25: near, then here, then near again", z.taken(12, 3, 2), 8);
        due("25: all are made", z.taken(12, 3, 1), 7);
        due("25: near", z.taken(0, 1, 2), 1);
        due("25: here", z.taken(1, 2, 2), 2);
        ToolDays w = from("round 12;tool 0;plan 0 1,0 1,0 1,0 1;order 0 due 399 worth 3");
        due("25: days of a run", w.taken(0, 1, 2), 36);
    }

    private static void promise26Best() {
        ToolDays x = new ToolDays();
        for (int k = 0; k < 3; k++) {
            due("26: no orders", x.best(k), 0);
        }
        ToolDays y = from("tool 1;plan 0 5;order 0 due 8 worth 10;order 0 due 1 worth 7;order 0 due 15 worth 7");
        due("26: worths", y.best(0), 24);
        due("26: orders", y.best(1), 7);
        due("26: the first of the best", y.best(2), 102);
        due("26: another what", y.best(3), BEYOND);
        due("26: what -1", y.best(-1), BEYOND);
        y.change(0, 0, 1, 4);
        due("26: two a day", y.best(2), 12);
        y.change(0, 0, 1, 5);
        y.order(0, 1, 30);
        y.order(0, 15, 1);
        due("26: five, worths", y.best(0), 47);
        due("26: five, orders", y.best(1), 13);
        due("26: five, sequence", y.best(2), 30124);
        due("26: as taken", y.taken(30124, 5, 0), 47);
        ToolDays z = from("tool 1;plan 0 1;order 0 due 0 worth 9;order 0 due 0 worth 1");
        ToolDays w = from("tool 1;plan 0 5");
        for (int k = 0; k < 5; k++) {
            w.order(0, 29 - 7 * k, 90 + k);
        }
        due("26: the last of all sequences", w.best(2), 43210);
        due("26: all in time", w.best(0), 460);
        due("26: none in time", z.best(0), 0);
        due("26: none in time, orders", z.best(1), 0);
        due("26: none in time, the first", z.best(2), 1);
    }

    private static void promises27To29Rounds() {
        ToolDays x = from("tool 0 1 2 11;tool 3 4;tool;plan 0 5,1 2,0 6;plan 1 8,0 8;plan 2 1,0 1");
        // Tool 0: 24 hours by 11: 2; tool 1: 16 by 2: 8.
        due("27: most(0)", x.most(0), 2);
        due("28: chokes(0)", x.chokes(0), 0);
        due("27: most(1)", x.most(1), 2);
        due("28: chokes(1)", x.chokes(1), 1);
        due("27: a tool without days", x.most(2), 0);
        due("28: a tool without days", x.chokes(2), 2);
        x.round(12);
        due("27: day 11 counts in a round of 12", x.most(0), 2);
        x.change(0, 0, 1, 4);
        due("27: 32 by 10", x.most(0), 3);
        x.days(1, days(0, 1, 2, 3));
        due("27: both 4", x.most(1), 4);
        due("28: of both the least", x.chokes(1), 0);
        due("27: no such thing", x.most(3), BEYOND);
        due("27: thing -1", x.most(-1), BEYOND);
        due("28: no such thing", x.chokes(3), BEYOND);
        x.round(7);
        x.near(1);
        due("29: idle(0)", x.idle(0), 127);
        due("29: idle(1)", x.idle(1), days(3, 4, 5, 6));
        due("29: idle(3)", x.idle(3), days(4, 5, 6));
        due("29: idle(4)", x.idle(4), 127);
        due("29: idle(7)", x.idle(7), days(4, 5, 6));
        due("29: idle(8)", x.idle(8), BEYOND);
        due("29: idle(-1)", x.idle(-1), BEYOND);
        x.tool(0);
        x.tool(0);
        x.tool(0);
        x.tool(0);
        x.tool(4095);
        due("29: all 8 tools", x.idle(255), 0);
        due("29: idle(256)", x.idle(256), BEYOND);
    }

    private static void promise30Turned() {
        // 3, 4, 8: tool 2 a day later than tool 1 makes it 5; tool 0 on day 0 and the others as they are: 0, 4, 8.
        ToolDays x = from("tool 3;tool 4;tool 1;plan 0 1,1 1,2 1");
        due("30: as it is", x.ready(0, 0), 8);
        due("30: turned(0)", x.turned(0), 204);
        x.days(2, days(5));
        due("30: the first tool can't alone", x.turned(0), 0);
        x.days(0, days(6, 11));
        // As it is 6, 11, 12; with tool 0 on days 0 to 3: 5 is the soonest, the first by 1 to day 0.
        due("30: days that the round has not fall off", x.turned(0), 1);
        due("30: nothing changes", x.days(0, days(6, 11)), days(6, 11));
        due("30: ready as ahead", x.ready(0, 0), 12);
        x.change(0, 1, 2, 0);
        due("30: never ready", x.turned(0), 0);
        x.turn(0, SOON);
        due("30: not ready as it is", x.ready(0, 0), NONE);
        due("30: ready then", x.turned(0), 5);
        x.round(1);
        due("30: a round of 1", x.turned(0), 0);
        due("30: no such thing", x.turned(1), BEYOND);
        due("30: thing -1", x.turned(-1), BEYOND);
    }

    private static void promises31And32For() {
        ToolDays x = from("tool 3;tool 1;plan 0 1,1 1;near 4");
        // 3, then day 1 of the round behind it: a round of 4: 3, 5.
        due("31: roundFor(0, 0)", x.roundFor(0, 0), 4);
        due("31: nothing changes", x.count(0), 7);
        due("31: roundFor(0, 4)", x.roundFor(0, 4), 4);
        due("32: nearFor(0, 0)", x.nearFor(0, 0), -1);
        due("32: nothing changes", x.count(1), 4);
        x.turn(0, WALKED);
        // Without NEAR 3, 8; NEAR 1: 2, 7; NEAR 2 and 9: 1, 1.
        due("32: walked", x.nearFor(0, 0), 2);
        x.days(0, 0);
        due("31: none", x.roundFor(0, 0), NONE);
        due("32: none", x.nearFor(0, 0), NONE);
        due("31: day 1000", x.roundFor(0, 1000), BEYOND);
        due("31: day -1", x.roundFor(0, -1), BEYOND);
        due("31: no such thing", x.roundFor(1, 0), BEYOND);
        due("32: day 1000", x.nearFor(0, 1000), BEYOND);
        due("32: day -1", x.nearFor(0, -1), BEYOND);
        due("32: no such thing", x.nearFor(1, 0), BEYOND);
        x.days(0, days(11));
        x.days(1, 4095);
        due("31: a round of 1", from("tool 0;plan 0 1").roundFor(0, 1), 1);
        due("31: ready on day 0, the least", from("tool 0;plan 0 1").roundFor(0, 0), 1);
        due("32: ready on day 0, the least", from("tool 0;walked 0 1").nearFor(0, 0), -1);
        due("31: only with 12", x.roundFor(0, 0), 12);
        due("31: from 999 on", x.roundFor(0, 999), 12);
    }

    private static void promises33And34Draws() {
        ToolDays x = from("tool 0 1;plan 0 1,0 1 wait 1");
        int z = 77;
        due("34: seed(77)", x.seed(77), 1);
        int good = 0;
        for (int k = 0; k < 40; k++) {
            z = z * 1103515245 + 12345;
            // Good from days 2 to 6 (the next day 0) and 0, not from day 1.
            good += (z >>> 8) % 60 % 7 == 1 ? 0 : 1;
        }
        due("33: chance(0, 40)", x.chance(0, 40), good);
        due("33: a tool without days", from("tool;plan 0 1").chance(0, 40), 0);
        due("33: z", x.count(6), z);
        due("33: chance(0, 0)", x.chance(0, 0), BEYOND);
        due("33: chance(0, 41)", x.chance(0, 41), BEYOND);
        due("33: no such thing", x.chance(1, 1), BEYOND);
        due("33: nothing is drawn then", x.seed(BEYOND), z);
        due("34: any int, no finding", x.seed(0), BEYOND);
        due("34: status", x.status(-1), 3);
        due("34: z", x.chance(0, 1), 12345 / 256 % 60 % 7 == 1 ? 0 : 1);
        due("34: z", x.count(6), 12345);
    }

    private static void promises35And36Spots() {
        ToolDays x = new ToolDays();
        x.tool(1);
        for (int k = 0; k < 7; k++) {
            x.thing(k, 0, 1);
            due("35: hold", x.hold(k + 3, k), 1);
        }
        due("35: count", x.count(7), 7);
        String[] over = {"0", "01", "02", "03", "014", "0145", "036"};
        for (int k = 0; k < 7; k++) {
            for (int kind = 0; kind < 7; kind++) {
                due("36: kind " + k + " as " + kind, x.as(k + 3, kind), over[k].indexOf('0' + kind) >= 0 ? k : KIND);
            }
        }
        due("36: nothing", x.as(0, 0), MISSING);
        due("36: spot 10", x.as(10, 0), BEYOND);
        due("36: spot -1", x.as(-1, 0), BEYOND);
        due("36: kind 7", x.as(0, 7), BEYOND);
        due("36: kind -1", x.as(0, -1), BEYOND);
        x.turn(0, LATE);
        due("36: turned", x.as(3, BATCH), 0);
        due("35: nothing", x.hold(3, -1), 1);
        due("36: nothing", x.as(3, 0), MISSING);
        due("35: count", x.count(7), 6);
        due("35: no such thing", x.hold(3, 7), BEYOND);
        due("35: thing -2", x.hold(3, -2), BEYOND);
        due("35: spot 10", x.hold(10, 0), BEYOND);
        due("35: spot -1", x.hold(-1, 0), BEYOND);
    }

    private static void promises37To39Sheets() {
        ToolDays x = new ToolDays();
        due("37: sheet(4, 8, 1)", x.sheet(4, 8, 1), BEYOND);
        due("37: sheet(-1, 8, 1)", x.sheet(-1, 8, 1), BEYOND);
        due("37: bits 24", x.sheet(0, 24, 1), BEYOND);
        due("37: bits ahead of size", x.sheet(0, 9, -1), BEYOND);
        due("37: size", x.sheet(0, 8, -1), SIZE);
        due("37: size, bits 0", x.sheet(0, 0, -1), SIZE);
        due("37: n 41", x.sheet(0, 8, 41), BEYOND);
        due("37: n 41, bits 0", x.sheet(0, 0, 41), BEYOND);
        due("37: it is MISSING yet", x.write(0, 0, 0), MISSING);
        due("37: n 40", x.sheet(0, 8, 40), 40);
        due("37: n 0", x.sheet(1, 16, 0), 0);
        due("37: n 0 isn't MISSING", x.load(1), 0);
        due("38: write", x.write(0, 39, 1), 1);
        due("38: number 40", x.write(0, 40, 1), BEYOND);
        due("38: number -1", x.write(0, -1, 1), BEYOND);
        due("38: no such sheet", x.write(4, 0, 1), BEYOND);
        due("38: MISSING", x.write(2, -1, 1), MISSING);
        due("38: of no numbers", x.write(1, 0, 1), BEYOND);
        due("37: MISSING again", x.sheet(0, 0, 7), 0);
        due("37: MISSING again", x.write(0, 0, 1), MISSING);
        promise38Signs();
        promise39Copy();
    }

    /** What a sheet's numbers are is told by load: it ends at the first that isn't a set of days. */
    private static void promise38Signs() {
        ToolDays x = from("tool;tool;tool");
        int[][] told = {{8, 127, 127}, {8, 128, -1}, {8, 255, -1}, {8, 256, 0}, {8, -1, -1}, {8, -129, 127},
            {16, 4095, 4095}, {16, 32768, -1}, {16, 65536 + 5, 5}, {32, 65536 + 5, -1}, {32, 4095, 4095}, {32, 4096, -1}};
        for (int[] t : told) {
            x.sheet(0, t[0], 2);
            x.write(0, 0, t[1]);
            x.days(0, 9);
            due("38: " + t[0] + " bits of " + t[1], x.load(0), t[2] < 0 ? 0 : 2);
            due("38: " + t[0] + " bits of " + t[1], x.days(0, 0), t[2] < 0 ? 9 : t[2]);
        }
    }

    private static void promise39Copy() {
        ToolDays x = from("tool;tool;tool;tool;tool");
        x.sheet(0, 16, 5);
        x.sheet(1, 16, 3);
        x.sheet(2, 8, 5);
        for (int k = 0; k < 5; k++) {
            x.write(0, k, k + 1);
        }
        due("39: within one sheet, up", x.copy(0, 0, 0, 1, 4), 4);
        x.load(0);
        for (int k = 0; k < 5; k++) {
            due("39: as they all were", x.days(k, 0), k == 0 ? 1 : k);
        }
        due("39: within one sheet, down", x.copy(0, 2, 0, 0, 3), 3);
        x.load(0);
        int[] want = {2, 3, 4, 3, 4};
        for (int k = 0; k < 5; k++) {
            due("39: as they all were", x.days(k, 0), want[k]);
        }
        due("39: to another", x.copy(0, 1, 1, 0, 3), 3);
        x.load(1);
        due("39: to another", x.days(2, 0), 3);
        due("39: none", x.copy(0, 5, 1, 3, 0), 0);
        due("39: none, beyond the end", x.copy(0, 6, 1, 0, 0), BEYOND);
        due("39: one has not so many", x.copy(0, 0, 1, 0, 4), BEYOND);
        due("39: one has not so many", x.copy(1, 1, 0, 0, 3), BEYOND);
        due("39: from -1", x.copy(0, -1, 1, 0, 1), BEYOND);
        due("39: to -1", x.copy(0, 0, 1, -1, 1), BEYOND);
        due("39: n -1", x.copy(0, 1, 1, 1, -1), BEYOND);
        due("39: great numbers", x.copy(0, Integer.MAX_VALUE, 1, 0, Integer.MAX_VALUE), BEYOND);
        due("39: great numbers", x.copy(0, 0, 1, 2, Integer.MAX_VALUE), BEYOND);
        due("39: KIND ahead of BEYOND", x.copy(0, -1, 2, 0, 1), KIND);
        due("39: MISSING", x.copy(0, -1, 3, 0, 1), MISSING);
        due("39: MISSING", x.copy(3, 0, 0, 0, 1), MISSING);
        due("39: no such sheet", x.copy(3, 0, 4, 0, 1), BEYOND);
        due("39: no such sheet", x.copy(-1, 0, 3, 0, 1), BEYOND);
    }

    private static void promise40Load() {
        ToolDays x = from("tool 1;tool 1;tool 1");
        due("40: no such sheet", x.load(4), BEYOND);
        due("40: sheet -1", x.load(-1), BEYOND);
        due("40: MISSING", x.load(0), MISSING);
        x.sheet(0, 32, 4);
        x.write(0, 0, 4095);
        x.write(0, 1, 0);
        x.write(0, 2, 4096);
        due("40: up to one that isn't a set", x.load(0), 2);
        due("40: tool 0", x.days(0, 1), 4095);
        due("40: tool 1", x.days(1, 1), 0);
        due("40: tool 2", x.days(2, 1), 2);
        x.write(0, 2, 5);
        due("40: as many as there are tools", x.load(0), 3);
        due("40: tool 2", x.days(2, 1), 5);
        x.write(0, 0, -1);
        due("40: none", x.load(0), 0);
        x.sheet(0, 32, 3);
        due("40: a sheet anew is all 0", x.load(0), 3);
        for (int k = 0; k < 3; k++) {
            due("40: a sheet anew is all 0", x.days(k, 1), 0);
        }
    }

    private static void judged(ToolDays x, int want, int thing, int... days) {
        x.sheet(0, 16, days.length);
        StringBuilder told = new StringBuilder("41: judge of");
        for (int k = 0; k < days.length; k++) {
            x.write(0, k, days[k]);
            told.append(' ').append(days[k]);
        }
        due(told.toString(), x.judge(0, thing), want);
    }

    private static void promise41Judge() {
        ToolDays x = from("tool 1 2;tool 4;plan 0 1,1 1 wait 2,0 1;tool;soon 0 1,2 1;best 2 1;late 0 1");
        judged(x, 0, 0, 2, 4, 8);
        judged(x, 2, 0, 1, 4, 8);
        judged(x, 1, 0, 0, 4, 8);
        judged(x, 3, 0, 2, 4, 9);
        judged(x, 3, 0, 2, 4);
        judged(x, 4, 0, 2, 4, 8, 9);
        judged(x, 1, 0);
        judged(x, 1, 0, -5, 4, 8);
        judged(x, 0, 0, 996, 998, 1002);
        judged(x, 1, 0, 1003, 1005, 1009);
        judged(x, 2, 1, 2, -1);
        judged(x, 2, 1, 2, 2);
        judged(x, 0, 2, 7);
        judged(x, 1, 2, 8);
        judged(x, 1, 2, -1);
        judged(x, 0, 2, 0);
        judged(x, 0, 3, 8);
        x.days(0, 4095);
        judged(x, 0, 3, 999);
        judged(x, 1, 3, 1000);
        due("41: no such thing", x.judge(0, 4), BEYOND);
        due("41: MISSING ahead of the thing", x.judge(1, 9), MISSING);
        due("41: no such sheet", x.judge(4, 0), BEYOND);
        due("41: sheet -1", x.judge(-1, 0), BEYOND);
    }

    private static void promises42To44Images() {
        ToolDays x = from("round 9;near 4;tool 1;plan 0 1;order 0 due 3 worth 4");
        due("44: nothing", x.tear(), 0);
        due("43: nothing", x.undo(), NONE);
        x.seed(55);
        x.hold(2, 0);
        due("42: image()", x.image(), 1);
        x.round(3);
        x.near(-1);
        x.days(0, 2);
        x.tool(3);
        x.turn(0, 3);
        x.step(0, 1, 2, 3);
        x.change(0, 0, 1, 8);
        x.thing(1, 1, 1);
        x.clear();
        x.order(1, 9, 9);
        x.order(1, 9, 9);
        x.seed(66);
        x.hold(2, 1);
        x.hold(3, 1);
        x.feed(0x41, 1);
        x.sheet(1, 8, 3);
        due("43: undo()", x.undo(), 1);
        int[] want = {9, 4, 1, 1, 1, 1, 55, 1};
        for (int k = 0; k < 8; k++) {
            due("43: count(" + k + ")", x.count(k), want[k]);
        }
        due("43: days", x.days(0, 0), 2);
        due("43: kind", x.thingOf(0, -1, 0), 0);
        due("43: steps", x.thingOf(0, -2, 0), 1);
        due("43: hours", x.thingOf(0, 0, 1), 1);
        due("43: spot", x.as(2, 0), 0);
        due("43: order", x.orderOf(0, 2), 4);
        due("43: sheets stay", x.load(1), 1);
        due("43: status stays", x.status(3), 1);
        x.thing(0, 0, 1);
        due("43: it stays", x.undo(), 1);
        x.thing(0, 0, 1);
        x.image();
        x.thing(0, 0, 1);
        due("43: the latest", x.undo(), 2);
        due("44: something", x.tear(), 1);
        due("43: no more", x.undo(), NONE);
        due("44: nothing", x.tear(), 0);
        due("43: the town stays", x.count(3), 2);
    }

    private static void promise45Count() {
        ToolDays x = from("round 3;near 0;tool;tool 1;plan 0 1;plan 0 1;plan 0 1;order 0 due 1 worth 1");
        x.feed(0, 4);
        x.feed(0, 1);
        x.seed(-7);
        x.hold(9, 2);
        x.hold(0, 2);
        int[] want = {3, 0, 2, 3, 1, 5, -7, 2};
        for (int k = 0; k < 8; k++) {
            due("45: count(" + k + ")", x.count(k), want[k]);
        }
        due("45: count(8)", x.count(8), BEYOND);
        due("45: count(-1)", x.count(-1), BEYOND);
        for (int k : WRONG) {
            due("45: count(" + k + ")", x.count(k), BEYOND);
        }
    }

    private static void promise46Status() {
        ToolDays x = from("tool;plan 0 1");
        x.seed(BEYOND);
        x.count(6);
        x.seed(1);
        read(x, "x");
        due("46: none of these is a finding", x.status(-1), 0);
        x.round(0); // BEYOND
        x.undo(); // NONE
        x.ready(0, 0); // NONE
        x.as(0, 0); // MISSING
        x.sheet(0, 8, -1); // SIZE
        x.hold(0, 0);
        x.as(0, SOON); // KIND
        for (int k = 0; k < 8; k++) {
            x.tool(0); // once FULL
        }
        int[] want = {1, 1, 1, 2, 0, 1, 1};
        for (int k = 0; k < 7; k++) {
            due("46: status(" + k + ")", x.status(k), want[k]);
        }
        due("46: status(-1)", x.status(-1), 7);
        due("46: status(7)", x.status(7), BEYOND);
        due("46: status(-2)", x.status(-2), BEYOND);
        due("46: these count", x.status(0), 3);
        due("46: these count", x.status(-1), 9);
        x.image();
        x.round(0);
        x.undo();
        due("46: undo() takes none back", x.status(-1), 10);
    }

    public static void main(String[] args) {
        promise1NewObject();
        promise2Feed();
        promise3Wipe();
        promise4Town();
        promise4Faults();
        promise4Limits();
        promises5To9Town();
        promises10To14Things();
        promise15Next();
        promises16And17Runs();
        promises18To21Ready();
        promises22To24Orders();
        promise25Taken();
        promise26Best();
        promises27To29Rounds();
        promise30Turned();
        promises31And32For();
        promises33And34Draws();
        promises35And36Spots();
        promises37To39Sheets();
        promise40Load();
        promise41Judge();
        promises42To44Images();
        promise45Count();
        promise46Status();
        System.out.println(asked + " answers asked, " + wrong + " not as due");
        if (wrong != 0) {
            System.exit(1);
        }
    }
}
