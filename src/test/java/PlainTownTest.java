import java.util.ArrayList;
import java.util.Arrays;
import java.util.List;
import java.util.Random;

/**
 * Random runs of calls, each answered by ToolDays and by a plain town that does what the document's
 * words say, day by day, begin by begin and sequence by sequence, without any short cut.
 */
public final class PlainTownTest {
    static final int BEYOND = -1000001, FULL = -1000002, KIND = -1000003, NONE = -1000004,
            MISSING = -1000006, SIZE = -1000007;
    static final int NO_DAY = Integer.MIN_VALUE;

    static final class Step {
        int tool, hours, wait;
        Step(int tool, int hours, int wait) { this.tool = tool; this.hours = hours; this.wait = wait; }
        Step again() { return new Step(tool, hours, wait); }
    }

    static final class Thing {
        int kind;
        List<Step> steps = new ArrayList<>();
        Thing again() {
            Thing t = new Thing();
            t.kind = kind;
            for (Step s : steps) t.steps.add(s.again());
            return t;
        }
    }

    static final class State {
        int round = 7, near = -1, z = 1;
        List<Integer> tools = new ArrayList<>();
        List<Thing> things = new ArrayList<>();
        List<int[]> orders = new ArrayList<>();
        int[] spots = new int[10];
        State() { Arrays.fill(spots, -1); }
        State again() {
            State s = new State();
            s.round = round; s.near = near; s.z = z;
            s.tools.addAll(tools);
            for (Thing t : things) s.things.add(t.again());
            for (int[] o : orders) s.orders.add(o.clone());
            s.spots = spots.clone();
            return s;
        }
    }

    static final class Fault extends RuntimeException {
        final int at;
        Fault(int at) { this.at = at; }
    }

    static final class Plain {
        State s = new State(), image = null;
        StringBuilder tape = new StringBuilder();
        int[][] sheets = new int[4][];
        int[] sheetBits = new int[4];
        int[] findings = new int[7];

        int find(int finding) { findings[-1000001 - finding]++; return finding; }
        static boolean in(long v, long a, long b) { return a <= v && v <= b; }
        boolean isTool(int k) { return in(k, 0, s.tools.size() - 1); }
        boolean isThing(int k) { return in(k, 0, s.things.size() - 1); }

        boolean mayBe(State s, int tool, int day) { return (s.tools.get(tool) >> (day % s.round) & 1) == 1; }
        boolean mayNear(State s, int tool, int day) { return s.near >= 0 && mayBe(s, tool, day + s.near); }

        int first(State s, int tool, int from) {
            for (int d = from; d <= from + 60; d++) if (mayBe(s, tool, d)) return d;
            return NO_DAY;
        }
        int firstNear(State s, int tool, int from) {
            for (int d = from; d <= from + 60; d++) if (mayNear(s, tool, d)) return d;
            return NO_DAY;
        }
        int zero(State s, int from) {
            for (int d = from; d <= from + 60; d++) if (d % s.round == 0) return d;
            return NO_DAY;
        }
        static int lesser(int a, int b) { return a == NO_DAY ? b : b == NO_DAY ? a : Math.min(a, b); }

        int nextOf(State s, Thing t, int kind, int i, int d) {
            int tool = t.steps.get(i).tool;
            switch (kind) {
                case 0: return first(s, tool, i == 0 ? d : d + 1);
                case 1: return first(s, tool, d);
                case 2: return i == 0 ? first(s, tool, zero(s, d)) : nextOf(s, t, 0, i, d);
                case 3: return i > 0 && t.steps.get(i - 1).tool == tool ? d : nextOf(s, t, 0, i, d);
                case 4: return lesser(nextOf(s, t, 1, i, d), firstNear(s, tool, d + 1));
                case 5: {
                    int walked = nextOf(s, t, 4, i, d);
                    return i == t.steps.size() - 1 ? lesser(zero(s, d), walked) : walked;
                }
                default: return i == 0 ? nextOf(s, t, 3, i, d) : first(s, tool, d + 2);
            }
        }

        /** The days of the run; the last number is the step at which it spoils, -1 if it does not. */
        int[] runOf(State s, Thing t, int begin) {
            int[] days = new int[t.steps.size() + 1];
            int d = begin;
            for (int i = 0; i < t.steps.size(); i++) {
                int n = nextOf(s, t, t.kind, i, d);
                if (n == NO_DAY || i > 0 && n - d > t.steps.get(i).wait) {
                    days[t.steps.size()] = i;
                    return days;
                }
                days[i] = d = n;
            }
            days[t.steps.size()] = -1;
            return days;
        }
        boolean good(int[] run) { return run[run.length - 1] == -1; }
        int last(int[] run) { return run[run.length - 2]; }

        int begunOf(State s, Thing t, int day) {
            for (int b = day; b <= day + 200; b++) if (good(runOf(s, t, b))) return b;
            return NO_DAY;
        }
        int readyOf(State s, Thing t, int day) {
            int b = begunOf(s, t, day);
            return b == NO_DAY ? NO_DAY : last(runOf(s, t, b));
        }

        int feed(int bytes, int n) {
            if (!in(n, 1, 4)) return find(BEYOND);
            if (tape.length() + n > 120) return find(FULL);
            for (int k = n - 1; k >= 0; k--) tape.append((char) (bytes >> 8 * k & 255));
            return tape.length();
        }
        int wipe() { int n = tape.length(); tape.setLength(0); return n; }

        // The text: tokens {kind, place, end}; kind w, n, ; , ? or . (the end).
        String text; int[] tok;
        void advance() {
            int at = tok == null ? 0 : tok[2];
            while (at < text.length() && text.charAt(at) == ' ') at++;
            if (at == text.length()) { tok = new int[] {'.', at, at}; return; }
            String rest = text.substring(at);
            String w = rest.replaceAll("(?s)[^a-z].*", ""), n = rest.replaceAll("(?s)[^0-9].*", "");
            char c = rest.charAt(0);
            if (!w.isEmpty()) tok = new int[] {'w', at, at + w.length()};
            else if (!n.isEmpty()) tok = new int[] {'n', at, at + n.length()};
            else tok = new int[] {c == ';' || c == ',' ? c : '?', at, at + 1};
        }
        String word() { return tok[0] == 'w' ? text.substring(tok[1], tok[2]) : ""; }
        Fault fault() { return new Fault(tok[1]); }
        int number(int a, int b) {
            if (tok[0] != 'n') throw fault();
            java.math.BigInteger v = new java.math.BigInteger(text.substring(tok[1], tok[2]));
            if (v.bitLength() > 30 || !in(v.intValue(), a, b)) throw fault();
            advance();
            return v.intValue();
        }
        void expect(String w) { if (!word().equals(w)) throw fault(); advance(); }

        void item(State s) {
            String w = word();
            int kind = Arrays.asList("plan", "soon", "rounded", "batch", "walked", "best", "late").indexOf(w);
            if (w.equals("round")) { advance(); s.round = number(1, 12); }
            else if (w.equals("near")) { advance(); s.near = number(0, 11); }
            else if (w.equals("tool")) {
                if (s.tools.size() == 8) throw fault();
                advance();
                int set = 0, least = 0;
                while (tok[0] == 'n') { int v = number(least, 11); set |= 1 << v; least = v + 1; }
                s.tools.add(set);
            } else if (kind >= 0) {
                if (s.things.size() == 8) throw fault();
                Thing t = new Thing();
                t.kind = kind;
                do {
                    if (t.steps.size() == 8) throw fault();
                    advance();
                    int tool = number(0, s.tools.size() - 1), hours = number(1, 8), wait = 99;
                    if (word().equals("wait")) { advance(); wait = number(0, 99); }
                    t.steps.add(new Step(tool, hours, wait));
                } while (tok[0] == ',');
                s.things.add(t);
            } else if (w.equals("order")) {
                if (s.orders.size() == 5) throw fault();
                advance();
                int thing = number(0, s.things.size() - 1);
                expect("due");
                int due = number(0, 399);
                expect("worth");
                s.orders.add(new int[] {thing, due, number(1, 99)});
            } else throw fault();
        }
        int town() {
            State next = s.again();
            text = tape.toString();
            tape.setLength(0);
            tok = null;
            int items = 0;
            try {
                do {
                    advance();
                    item(next);
                    items++;
                } while (tok[0] == ';');
                if (tok[0] != '.') throw fault();
            } catch (Fault f) {
                return -1 - f.at;
            }
            s = next;
            return items;
        }

        int round(int n) { if (!in(n, 1, 12)) return find(BEYOND); int w = s.round; s.round = n; return w; }
        int near(int v) { if (!in(v, -1, 11)) return find(BEYOND); int w = s.near; s.near = v; return w; }
        int tool(int days) {
            if (!in(days, 0, 4095)) return find(BEYOND);
            if (s.tools.size() == 8) return find(FULL);
            s.tools.add(days);
            return s.tools.size() - 1;
        }
        int days(int tool, int days) {
            if (!isTool(tool) || !in(days, 0, 4095)) return find(BEYOND);
            return s.tools.set(tool, days);
        }
        int may(int tool, int day) {
            if (!isTool(tool) || !in(day, 0, 999)) return find(BEYOND);
            return mayBe(s, tool, day) ? 2 : mayNear(s, tool, day) ? 1 : 0;
        }
        int thing(int kind, int tool, int hours) {
            if (!in(kind, 0, 6) || !isTool(tool) || !in(hours, 1, 8)) return find(BEYOND);
            if (s.things.size() == 8) return find(FULL);
            Thing t = new Thing();
            t.kind = kind;
            t.steps.add(new Step(tool, hours, 99));
            s.things.add(t);
            return s.things.size() - 1;
        }
        int step(int thing, int tool, int hours, int wait) {
            if (!isThing(thing) || !isTool(tool) || !in(hours, 1, 8) || !in(wait, 0, 99)) return find(BEYOND);
            List<Step> steps = s.things.get(thing).steps;
            if (steps.size() == 8) return find(FULL);
            steps.add(new Step(tool, hours, wait));
            return steps.size();
        }
        int thingOf(int thing, int i, int what) {
            if (!isThing(thing)) return find(BEYOND);
            Thing t = s.things.get(thing);
            if (i == -1) return t.kind;
            if (i == -2) return t.steps.size();
            if (!in(i, 0, t.steps.size() - 1) || !in(what, 0, 2)) return find(BEYOND);
            Step p = t.steps.get(i);
            return what == 0 ? p.tool : what == 1 ? p.hours : p.wait;
        }
        int turn(int thing, int kind) {
            if (!isThing(thing) || !in(kind, 0, 6)) return find(BEYOND);
            int w = s.things.get(thing).kind;
            s.things.get(thing).kind = kind;
            return w;
        }
        int change(int thing, int i, int what, int v) {
            if (!isThing(thing) || !in(i, 0, s.things.get(thing).steps.size() - 1) || !in(what, 0, 2)) return find(BEYOND);
            if (what == 0 ? !isTool(v) : what == 1 ? !in(v, 1, 8) : !in(v, 0, 99)) return find(BEYOND);
            Step p = s.things.get(thing).steps.get(i);
            int w = what == 0 ? p.tool : what == 1 ? p.hours : p.wait;
            if (what == 0) p.tool = v; else if (what == 1) p.hours = v; else p.wait = v;
            return w;
        }

        int orNone(int day) { return day == NO_DAY ? find(NONE) : day; }
        int next(int thing, int i, int day) {
            if (!isThing(thing) || !in(i, 0, s.things.get(thing).steps.size() - 1) || !in(day, 0, 999)) return find(BEYOND);
            Thing t = s.things.get(thing);
            return orNone(nextOf(s, t, t.kind, i, day));
        }
        int run(int thing, int begin, int i) {
            if (!isThing(thing) || !in(i, 0, s.things.get(thing).steps.size() - 1) || !in(begin, 0, 999)) return find(BEYOND);
            int[] run = runOf(s, s.things.get(thing), begin);
            return orNone(good(run) ? run[i] : NO_DAY);
        }
        boolean askable(int thing, int day) { return isThing(thing) && in(day, 0, 999); }
        int spoils(int thing, int begin) {
            if (!askable(thing, begin)) return find(BEYOND);
            int[] run = runOf(s, s.things.get(thing), begin);
            return orNone(good(run) ? NO_DAY : run[run.length - 1]);
        }
        int ready(int thing, int day) {
            return askable(thing, day) ? orNone(readyOf(s, s.things.get(thing), day)) : find(BEYOND);
        }
        int begun(int thing, int day) {
            return askable(thing, day) ? orNone(begunOf(s, s.things.get(thing), day)) : find(BEYOND);
        }
        int latest(int thing, int day) {
            if (!isThing(thing) || !in(day, 0, 400)) return find(BEYOND);
            int latest = NO_DAY;
            for (int b = 0; b <= day; b++) {
                int[] run = runOf(s, s.things.get(thing), b);
                if (good(run) && last(run) <= day) latest = b;
            }
            return orNone(latest);
        }
        int waits(int thing, int day) {
            if (!askable(thing, day)) return find(BEYOND);
            int b = begunOf(s, s.things.get(thing), day);
            if (b == NO_DAY) return find(NONE);
            int[] run = runOf(s, s.things.get(thing), b);
            int most = 0;
            for (int i = 0; i + 2 < run.length; i++) most = Math.max(most, run[i + 1] - run[i]);
            return most;
        }

        int order(int thing, int due, int worth) {
            if (!isThing(thing) || !in(due, 0, 399) || !in(worth, 1, 99)) return find(BEYOND);
            if (s.orders.size() == 5) return find(FULL);
            s.orders.add(new int[] {thing, due, worth});
            return s.orders.size() - 1;
        }
        int orderOf(int order, int what) {
            if (!in(order, 0, s.orders.size() - 1) || !in(what, 0, 2)) return find(BEYOND);
            return s.orders.get(order)[what];
        }
        int clear() { int n = s.orders.size(); s.orders.clear(); return n; }

        /** {worths, set, last day, hours of tool 0, 1, ..} */
        int[] take(List<Integer> sequence) {
            int[] answer = new int[11];
            answer[2] = -1;
            int[][] used = new int[8][400];
            for (int o : sequence) {
                int[] order = s.orders.get(o);
                Thing t = s.things.get(order[0]);
                for (int b = 0; b <= 200; b++) {
                    int[] run = runOf(s, t, b);
                    if (!good(run) || last(run) > 399) continue;
                    int[][] then = new int[8][];
                    for (int k = 0; k < 8; k++) then[k] = used[k].clone();
                    boolean fits = true;
                    for (int i = 0; i < t.steps.size(); i++) {
                        Step p = t.steps.get(i);
                        then[p.tool][run[i]] += p.hours;
                        fits &= then[p.tool][run[i]] <= 8;
                    }
                    if (!fits) continue;
                    if (last(run) <= order[1]) {
                        used = then;
                        answer[0] += order[2];
                        answer[1] |= 1 << o;
                        answer[2] = Math.max(answer[2], last(run));
                    }
                    break;
                }
            }
            for (int k = 0; k < 8; k++) answer[3 + k] = Arrays.stream(used[k]).sum();
            return answer;
        }
        int taken(int digits, int places, int what) {
            if (digits < 0 || !in(places, 0, 5) || !in(what, 0, 2 + s.tools.size())) return find(BEYOND);
            String text = String.valueOf(digits);
            if (places == 0 && digits == 0) text = "";
            while (text.length() < places) text = "0" + text;
            if (text.length() != places) return find(BEYOND);
            List<Integer> sequence = new ArrayList<>();
            for (char c : text.toCharArray()) {
                if (c - '0' >= s.orders.size() || sequence.contains(c - '0')) return find(BEYOND);
                sequence.add(c - '0');
            }
            return take(sequence)[what];
        }
        int[] bestAnswer;
        void permute(List<Integer> begun) {
            if (begun.size() == s.orders.size()) {
                int[] got = take(begun);
                if (bestAnswer == null || got[0] > bestAnswer[0]) {
                    int digits = 0;
                    for (int o : begun) digits = digits * 10 + o;
                    bestAnswer = new int[] {got[0], got[1], digits};
                }
                return;
            }
            for (int o = 0; o < s.orders.size(); o++) {
                if (begun.contains(o)) continue;
                begun.add(o);
                permute(begun);
                begun.remove(begun.size() - 1);
            }
        }
        int best(int what) {
            if (!in(what, 0, 2)) return find(BEYOND);
            bestAnswer = null;
            permute(new ArrayList<>());
            return bestAnswer[what];
        }

        int[] mostOf(int thing) {
            int least = Integer.MAX_VALUE, tool = -1;
            for (int k = 0; k < s.tools.size(); k++) {
                int hours = 0, has = 0;
                for (Step p : s.things.get(thing).steps) if (p.tool == k) hours += p.hours;
                for (int d = 0; d < s.round; d++) if (mayBe(s, k, d)) has++;
                if (hours > 0 && 8 * has / hours < least) { least = 8 * has / hours; tool = k; }
            }
            return new int[] {least, tool};
        }
        int most(int thing) { return isThing(thing) ? mostOf(thing)[0] : find(BEYOND); }
        int chokes(int thing) { return isThing(thing) ? mostOf(thing)[1] : find(BEYOND); }
        int idle(int tools) {
            if (tools < 0 || tools >= 1 << s.tools.size()) return find(BEYOND);
            int set = 0;
            for (int d = 0; d < s.round; d++) {
                boolean used = false;
                for (int k = 0; k < s.tools.size(); k++) used |= (tools >> k & 1) == 1 && mayBe(s, k, d);
                if (!used) set |= 1 << d;
            }
            return set;
        }
        boolean sooner(int a, int b) { return a != NO_DAY && (b == NO_DAY || a < b); }
        int turned(int thing) {
            if (!isThing(thing)) return find(BEYOND);
            int soonest = readyOf(s, s.things.get(thing), 0), answer = 0;
            for (int k = 0; k < s.tools.size(); k++) {
                for (int t = 1; t < s.round; t++) {
                    State n = s.again();
                    int set = 0;
                    for (int d = 0; d < s.round; d++) if (mayBe(s, k, d)) set |= 1 << (d + t) % s.round;
                    n.tools.set(k, set);
                    int day = readyOf(n, n.things.get(thing), 0);
                    if (sooner(day, soonest)) { soonest = day; answer = 100 * k + t; }
                }
            }
            return answer;
        }
        int roundFor(int thing, int day) {
            if (!askable(thing, day)) return find(BEYOND);
            int soonest = NO_DAY, answer = NO_DAY;
            for (int n = 1; n <= 12; n++) {
                State t = s.again();
                t.round = n;
                int d = readyOf(t, t.things.get(thing), day);
                if (sooner(d, soonest)) { soonest = d; answer = n; }
            }
            return orNone(answer);
        }
        int nearFor(int thing, int day) {
            if (!askable(thing, day)) return find(BEYOND);
            int soonest = NO_DAY, answer = NO_DAY;
            for (int v = -1; v <= 11; v++) {
                State t = s.again();
                t.near = v;
                int d = readyOf(t, t.things.get(thing), day);
                if (sooner(d, soonest)) { soonest = d; answer = v; }
            }
            return orNone(answer);
        }
        int chance(int thing, int n) {
            if (!isThing(thing) || !in(n, 1, 40)) return find(BEYOND);
            int good = 0;
            for (int k = 0; k < n; k++) {
                s.z = s.z * 1103515245 + 12345;
                if (good(runOf(s, s.things.get(thing), (s.z >>> 8) % 60))) good++;
            }
            return good;
        }
        int seed(int v) { int w = s.z; s.z = v; return w; }

        int hold(int spot, int thing) {
            if (!in(spot, 0, 9) || thing != -1 && !isThing(thing)) return find(BEYOND);
            s.spots[spot] = thing;
            return 1;
        }
        int as(int spot, int kind) {
            if (!in(spot, 0, 9) || !in(kind, 0, 6)) return find(BEYOND);
            if (s.spots[spot] < 0) return find(MISSING);
            int[][] ups = {{0}, {1, 0}, {2, 0}, {3, 0}, {4, 1, 0}, {5, 4, 1, 0}, {6, 3, 0}};
            for (int k : ups[s.things.get(s.spots[spot]).kind]) if (k == kind) return s.spots[spot];
            return find(KIND);
        }
        int sheet(int s, int bits, int n) {
            if (!in(s, 0, 3) || bits != 0 && bits != 8 && bits != 16 && bits != 32) return find(BEYOND);
            if (n < 0) return find(SIZE);
            if (n > 40) return find(BEYOND);
            sheets[s] = bits == 0 ? null : new int[n];
            sheetBits[s] = bits;
            return bits == 0 ? 0 : n;
        }
        int write(int s, int i, int v) {
            if (!in(s, 0, 3)) return find(BEYOND);
            if (sheets[s] == null) return find(MISSING);
            if (!in(i, 0, sheets[s].length - 1)) return find(BEYOND);
            sheets[s][i] = sheetBits[s] == 8 ? (byte) v : sheetBits[s] == 16 ? (short) v : v;
            return 1;
        }
        int copy(int s, int from, int t, int to, int n) {
            if (!in(s, 0, 3) || !in(t, 0, 3)) return find(BEYOND);
            if (sheets[s] == null || sheets[t] == null) return find(MISSING);
            if (sheetBits[s] != sheetBits[t]) return find(KIND);
            if (from < 0 || to < 0 || n < 0 || (long) from + n > sheets[s].length || (long) to + n > sheets[t].length)
                return find(BEYOND);
            int[] was = sheets[s].clone();
            for (int k = 0; k < n; k++) sheets[t][to + k] = was[from + k];
            return n;
        }
        int load(int s) {
            if (!in(s, 0, 3)) return find(BEYOND);
            if (sheets[s] == null) return find(MISSING);
            int came = 0;
            for (int v : sheets[s]) {
                if (!in(v, 0, 4095) || !isTool(came)) break;
                this.s.tools.set(came++, v);
            }
            return came;
        }
        int judge(int s, int thing) {
            if (!in(s, 0, 3)) return find(BEYOND);
            if (sheets[s] == null) return find(MISSING);
            if (!isThing(thing)) return find(BEYOND);
            Thing t = this.s.things.get(thing);
            int right = 0;
            for (int i = 0; i < sheets[s].length; i++) {
                int v = sheets[s][i];
                if (i >= t.steps.size()) break;
                if (i == 0 && (!in(v, 0, 999) || nextOf(this.s, t, t.kind, 0, v) != v)) break;
                if (i > 0 && nextOf(this.s, t, t.kind, i, sheets[s][i - 1]) != v) break;
                if (i > 0 && v - sheets[s][i - 1] > t.steps.get(i).wait) break;
                right++;
            }
            return right == t.steps.size() && sheets[s].length == right ? 0 : right + 1;
        }
        int image() { image = s.again(); return 1; }
        int undo() {
            if (image == null) return find(NONE);
            s = image.again();
            return s.things.size();
        }
        int tear() { int w = image == null ? 0 : 1; image = null; return w; }
        int count(int what) {
            switch (what) {
                case 0: return s.round;
                case 1: return s.near;
                case 2: return s.tools.size();
                case 3: return s.things.size();
                case 4: return s.orders.size();
                case 5: return tape.length();
                case 6: return s.z;
                case 7: return (int) Arrays.stream(s.spots).filter(v -> v >= 0).count();
                default: return find(BEYOND);
            }
        }
        int status(int which) {
            if (!in(which, -1, 6)) return find(BEYOND);
            return which < 0 ? Arrays.stream(findings).sum() : findings[which];
        }
    }

    static Random random;
    static final int[] ODD = {-2147483648, 2147483647, -1, -2, -3, 1000, 4096, 400, 401, 41, 100, 13, 12, 10, 9, 8, 7, 6, 5, 4, 3};

    /** A number of a range, now and then one that may lie beyond it. */
    static int some(int a, int b) {
        if (random.nextInt(40) == 0) return ODD[random.nextInt(ODD.length)];
        if (random.nextInt(60) == 0) return random.nextBoolean() ? a - 1 : b + 1;
        return a + random.nextInt(Math.max(1, b - a + 1));
    }

    static String someItem(Plain p) {
        String[] kinds = {"plan", "soon", "rounded", "batch", "walked", "best", "late"};
        switch (random.nextInt(6)) {
            case 0: return "round " + some(1, 12);
            case 1: return "near " + some(0, 11);
            case 2: {
                StringBuilder b = new StringBuilder("tool");
                for (int d = 0; d < 12; d++) if (random.nextInt(4) == 0) b.append(' ').append(d);
                return b.toString();
            }
            case 3: return "order " + some(0, p.s.things.size()) + " due " + some(0, 399) + " worth " + some(1, 99);
            default: {
                StringBuilder b = new StringBuilder(kinds[random.nextInt(7)]);
                int n = 1 + random.nextInt(random.nextInt(5) == 0 ? 9 : 3);
                for (int k = 0; k < n; k++) {
                    b.append(k == 0 ? " " : ",").append(some(0, Math.max(1, p.s.tools.size()) - 1)).append(' ').append(some(1, 8));
                    if (random.nextInt(3) == 0) b.append(" wait ").append(some(0, 99));
                }
                return b.toString();
            }
        }
    }

    static String someText(Plain p) {
        StringBuilder b = new StringBuilder(someItem(p));
        int more = random.nextInt(4);
        for (int k = 0; k < more; k++) b.append(random.nextBoolean() ? ";" : " ; ").append(someItem(p));
        for (int k = 0; k < 1 && random.nextInt(3) == 0; k++) {
            int at = random.nextInt(b.length());
            if (random.nextBoolean()) b.deleteCharAt(at);
            else b.insert(at, " 0;,azA\n\u00ff9".charAt(random.nextInt(10)));
        }
        return b.substring(0, Math.min(120, b.length()));
    }

    static void check(String call, int got, int due, long run) {
        if (got == due) return;
        System.out.println("run " + run + ": " + call + " answered " + got + ", due is " + due);
        System.exit(1);
    }

    static void feedText(ToolDays x, Plain p, long run) {
        String text = someText(p);
        for (int at = 0; at < text.length(); ) {
            int n = Math.min(1 + random.nextInt(4), text.length() - at), v = random.nextInt();
            for (int k = 0; k < n; k++) v = v << 8 | text.charAt(at + k);
            at += n;
            check("feed(" + v + ", " + n + ")", x.feed(v, n), p.feed(v, n), run);
        }
        check("town() of '" + text + "'", x.town(), p.town(), run);
    }

    static int someDays() { return random.nextInt(4) == 0 ? some(0, 4095) : 1 << random.nextInt(8) | (random.nextBoolean() ? 1 << random.nextInt(12) : 0); }
    static int someDay() { return random.nextInt(3) == 0 ? some(0, 999) : some(0, 30); }
    static int someDigits(Plain p, int places) {
        int digits = 0;
        List<Integer> left = new ArrayList<>();
        for (int k = 0; k < p.s.orders.size(); k++) left.add(k);
        for (int k = 0; k < places; k++) {
            int o = left.isEmpty() || random.nextInt(30) == 0 ? random.nextInt(10) : left.remove(random.nextInt(left.size()));
            digits = digits * 10 + o;
        }
        return random.nextInt(40) == 0 ? some(0, 99999) : digits;
    }

    static void townCall(ToolDays x, Plain p, long run) {
        int a, b, c, d;
        int tool = p.s.tools.size() - 1;
        switch (random.nextInt(14)) {
            case 0: a = some(1, 12); check("round(" + a + ")", x.round(a), p.round(a), run); break;
            case 1: a = some(-1, 11); check("near(" + a + ")", x.near(a), p.near(a), run); break;
            case 2: case 3: a = someDays(); check("tool(" + a + ")", x.tool(a), p.tool(a), run); break;
            case 4: a = some(0, tool); b = someDays(); check("days(" + a + ", " + b + ")", x.days(a, b), p.days(a, b), run); break;
            case 5: a = some(0, tool); b = someDay(); check("may(" + a + ", " + b + ")", x.may(a, b), p.may(a, b), run); break;
            case 6: case 7: a = some(0, 6); b = some(0, tool); c = some(1, 8);
                check("thing(" + a + ", " + b + ", " + c + ")", x.thing(a, b, c), p.thing(a, b, c), run); break;
            case 8: case 9: case 10: a = some(0, p.s.things.size() - 1); b = some(0, tool); c = some(1, 8); d = some(0, 99);
                if (random.nextBoolean()) d = some(0, 12);
                check("step(" + a + ", " + b + ", " + c + ", " + d + ")", x.step(a, b, c, d), p.step(a, b, c, d), run); break;
            case 11: a = some(0, p.s.things.size() - 1); b = some(-2, 8); c = some(0, 2);
                check("thingOf(" + a + ", " + b + ", " + c + ")", x.thingOf(a, b, c), p.thingOf(a, b, c), run); break;
            case 12: a = some(0, p.s.things.size() - 1); b = some(0, 6);
                check("turn(" + a + ", " + b + ")", x.turn(a, b), p.turn(a, b), run); break;
            default: a = some(0, p.s.things.size() - 1); b = some(0, 3); c = some(0, 2);
                d = c == 0 ? some(0, tool) : c == 1 ? some(1, 8) : some(0, 99);
                check("change(" + a + ", " + b + ", " + c + ", " + d + ")", x.change(a, b, c, d), p.change(a, b, c, d), run);
        }
    }

    static void dayCall(ToolDays x, Plain p, long run) {
        int a = some(0, p.s.things.size() - 1), b = someDay(), c = some(0, 4);
        switch (random.nextInt(12)) {
            case 0: case 1: check("next(" + a + ", " + c + ", " + b + ")", x.next(a, c, b), p.next(a, c, b), run); break;
            case 2: check("run(" + a + ", " + b + ", " + c + ")", x.run(a, b, c), p.run(a, b, c), run); break;
            case 3: check("spoils(" + a + ", " + b + ")", x.spoils(a, b), p.spoils(a, b), run); break;
            case 4: check("ready(" + a + ", " + b + ")", x.ready(a, b), p.ready(a, b), run); break;
            case 5: check("begun(" + a + ", " + b + ")", x.begun(a, b), p.begun(a, b), run); break;
            case 6: b = some(0, 400); check("latest(" + a + ", " + b + ")", x.latest(a, b), p.latest(a, b), run); break;
            case 7: check("waits(" + a + ", " + b + ")", x.waits(a, b), p.waits(a, b), run); break;
            case 8: check("turned(" + a + ")", x.turned(a), p.turned(a), run); break;
            case 9: check("roundFor(" + a + ", " + b + ")", x.roundFor(a, b), p.roundFor(a, b), run); break;
            case 10: check("nearFor(" + a + ", " + b + ")", x.nearFor(a, b), p.nearFor(a, b), run); break;
            default: b = some(1, 40); check("chance(" + a + ", " + b + ")", x.chance(a, b), p.chance(a, b), run);
        }
    }

    static void orderCall(ToolDays x, Plain p, long run) {
        int a, b, c;
        switch (random.nextInt(12)) {
            case 0: case 1: case 2: case 3: a = some(0, p.s.things.size() - 1); b = random.nextInt(3) == 0 ? some(0, 399) : some(0, 25); c = some(1, 99);
                check("order(" + a + ", " + b + ", " + c + ")", x.order(a, b, c), p.order(a, b, c), run); break;
            case 4: a = some(0, p.s.orders.size() - 1); b = some(0, 2); check("orderOf(" + a + ", " + b + ")", x.orderOf(a, b), p.orderOf(a, b), run); break;
            case 5: if (random.nextInt(3) == 0) check("clear()", x.clear(), p.clear(), run); break;
            case 6: if (random.nextInt(4) == 0) { a = some(0, 2); check("best(" + a + ")", x.best(a), p.best(a), run); } break;
            case 7: a = some(0, p.s.things.size() - 1); check("most(" + a + ")", x.most(a), p.most(a), run);
                check("chokes(" + a + ")", x.chokes(a), p.chokes(a), run); break;
            case 8: a = some(0, (1 << p.s.tools.size()) - 1); check("idle(" + a + ")", x.idle(a), p.idle(a), run); break;
            default: b = some(0, p.s.orders.size()); a = someDigits(p, Math.max(0, Math.min(b, 5))); c = some(0, 2 + p.s.tools.size());
                check("taken(" + a + ", " + b + ", " + c + ")", x.taken(a, b, c), p.taken(a, b, c), run);
        }
    }

    /** Writes a run's days, or nearly these, on a sheet and lets it be judged. */
    static void judgeRun(ToolDays x, Plain p, long run) {
        if (p.s.things.isEmpty()) return;
        int thing = random.nextInt(p.s.things.size()), sheet = random.nextInt(4);
        int n = Math.max(0, p.s.things.get(thing).steps.size() + (random.nextInt(3) == 0 ? random.nextInt(3) - 1 : 0));
        int bits = random.nextBoolean() ? 16 : 32;
        check("sheet", x.sheet(sheet, bits, n), p.sheet(sheet, bits, n), run);
        int[] days = p.runOf(p.s, p.s.things.get(thing), someDay() & 511);
        for (int i = 0; i < n; i++) {
            int v = i < days.length - 1 ? days[i] : 0;
            if (random.nextInt(8) == 0) v += random.nextInt(5) - 2;
            if (random.nextInt(60) == 0) v = ODD[random.nextInt(ODD.length)];
            check("write", x.write(sheet, i, v), p.write(sheet, i, v), run);
        }
        check("judge(" + sheet + ", " + thing + ")", x.judge(sheet, thing), p.judge(sheet, thing), run);
    }

    static void sheetCall(ToolDays x, Plain p, long run) {
        int a = some(0, 3), b, c, d, e;
        switch (random.nextInt(11)) {
            case 0: a = some(0, 9); b = some(-1, p.s.things.size() - 1); check("hold(" + a + ", " + b + ")", x.hold(a, b), p.hold(a, b), run); break;
            case 1: case 2: a = some(0, 9); b = some(0, 6); check("as(" + a + ", " + b + ")", x.as(a, b), p.as(a, b), run); break;
            case 3: b = 8 * random.nextInt(5); c = some(0, 40); check("sheet(" + a + ", " + b + ", " + c + ")", x.sheet(a, b, c), p.sheet(a, b, c), run); break;
            case 4: case 5: case 6: b = some(0, 5); c = random.nextInt(3) == 0 ? random.nextInt() : some(0, 4095);
                check("write(" + a + ", " + b + ", " + c + ")", x.write(a, b, c), p.write(a, b, c), run); break;
            case 7: b = some(0, 6); c = some(0, 3); d = some(0, 6); e = some(0, 9);
                check("copy(" + a + ", " + b + ", " + c + ", " + d + ", " + e + ")", x.copy(a, b, c, d, e), p.copy(a, b, c, d, e), run); break;
            case 8: check("load(" + a + ")", x.load(a), p.load(a), run); break;
            case 9: b = some(0, p.s.things.size() - 1); check("judge(" + a + ", " + b + ")", x.judge(a, b), p.judge(a, b), run); break;
            default: judgeRun(x, p, run);
        }
    }

    static void imageCall(ToolDays x, Plain p, long run) {
        int a;
        switch (random.nextInt(8)) {
            case 0: check("image()", x.image(), p.image(), run); break;
            case 1: check("undo()", x.undo(), p.undo(), run); break;
            case 2: check("tear()", x.tear(), p.tear(), run); break;
            case 3: a = random.nextInt(); check("seed(" + a + ")", x.seed(a), p.seed(a), run); break;
            case 4: a = random.nextInt(); check("feed(" + a + ", 3)", x.feed(a, 3), p.feed(a, 3), run); break;
            case 5: check("wipe()", x.wipe(), p.wipe(), run); break;
            case 6: a = some(0, 7); check("count(" + a + ")", x.count(a), p.count(a), run); break;
            default: a = some(-1, 6); check("status(" + a + ")", x.status(a), p.status(a), run);
        }
    }

    /** All that can be asked of the state without changing it. */
    static void compareAll(ToolDays x, Plain p, long run) {
        for (int k = 0; k < 8; k++) check("count(" + k + ")", x.count(k), p.count(k), run);
        for (int k = -1; k < 7; k++) check("status(" + k + ")", x.status(k), p.status(k), run);
        for (int k = 0; k < p.s.things.size(); k++) {
            check("thingOf kind", x.thingOf(k, -1, 0), p.thingOf(k, -1, 0), run);
            check("thingOf steps", x.thingOf(k, -2, 0), p.thingOf(k, -2, 0), run);
            for (int i = 0; i < p.s.things.get(k).steps.size(); i++)
                for (int w = 0; w < 3; w++) check("thingOf step", x.thingOf(k, i, w), p.thingOf(k, i, w), run);
        }
        for (int k = 0; k < p.s.orders.size(); k++)
            for (int w = 0; w < 3; w++) check("orderOf", x.orderOf(k, w), p.orderOf(k, w), run);
        for (int k = 0; k < p.s.tools.size(); k++) {
            int was = p.s.tools.get(k);
            check("days", x.days(k, was), was, run);
        }
    }

    public static void main(String[] args) {
        int runs = args.length > 0 ? Integer.parseInt(args[0]) : 1500;
        for (long run = 0; run < runs; run++) {
            random = new Random(run);
            ToolDays x = new ToolDays();
            Plain p = new Plain();
            int calls = 40 + random.nextInt(160);
            for (int c = 0; c < calls; c++) {
                int which = c < 25 ? random.nextInt(3) * 3 : random.nextInt(20);
                if (which < 2) feedText(x, p, run);
                else if (which < 8) townCall(x, p, run);
                else if (which < 12) dayCall(x, p, run);
                else if (which < 16) orderCall(x, p, run);
                else if (which < 18) sheetCall(x, p, run);
                else imageCall(x, p, run);
            }
            compareAll(x, p, run);
        }
        System.out.println(runs + " random runs answered as a plain town does");
    }
}
