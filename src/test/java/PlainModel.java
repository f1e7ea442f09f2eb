import java.util.ArrayList;
import java.util.List;
import java.util.regex.Matcher;
import java.util.regex.Pattern;

/**
 * The document once more, by the dearest ways: every packing, every order, every row of jolts is walked step by
 * step, and texts are read by patterns. It shares no thought with the class but the document.
 */
final class PlainModel {
    static final int BAD = -1, NOT = -2, FULL = -3, NONE = -4, NULL = -11, CAST = -12, INDEX = -13, SIZE = -14;
    static final int NOWHERE = 3;

    record Thing(int weight, int damp, int edges, int worth, boolean round) {
    }

    /** Bags, things' places, the step and the draw. */
    static final class State {
        List<int[]> bags = new ArrayList<>(); // kind, wet, wear, gone
        List<Integer> where = new ArrayList<>();
        int step = 0;
        long draw = 1;

        State twin() {
            State s = new State();
            for (int[] b : bags) s.bags.add(b.clone());
            s.where.addAll(where);
            s.step = step;
            s.draw = draw;
            return s;
        }
    }

    List<Thing> things = new ArrayList<>();
    String way = "";
    State now = new State();
    List<State> past = new ArrayList<>();
    PlainModel image = null;
    String tape = "";
    Object[] sheets = new Object[4];

    // ---- what is there

    boolean isBag(int b) {
        return b >= 0 && b < now.bags.size();
    }

    boolean isThing(int t) {
        return t >= 0 && t < things.size();
    }

    List<Integer> in(State s, int bag) {
        List<Integer> list = new ArrayList<>();
        for (int t = 0; t < things.size(); t++) if (s.where.get(t) == bag) list.add(t);
        return list;
    }

    static boolean isTorn(int[] bag) {
        return (bag[3] & 1) == 1 || (bag[3] & 2) != 0 && (bag[3] & 4) != 0;
    }

    static int bits(List<Integer> list) {
        int set = 0;
        for (int t : list) set += 1 << t;
        return set;
    }

    static int strength(int[] bag, int place) {
        int kind = bag[0];
        int wet = bag[1];
        int wear = bag[2];
        int s;
        if (kind == 0 || kind == 1) {
            s = 90 - wear - wet;
            if (place == 0) s -= wet;
            if (place == 1 || place == 2) s -= 30;
            if (kind == 1) s += 40;
        } else {
            s = 70 - 2 * wear;
            if (place == 3) s -= 20;
            if (kind == 3) s += wear + 30;
        }
        return s < 0 ? 0 : s;
    }

    int force(State s, int bag, int place, int jolt) {
        int weight = 0;
        int edges = 0;
        for (int t : in(s, bag)) {
            weight += things.get(t).weight;
            edges += things.get(t).edges;
        }
        if (place == 3) return edges * 3;
        int all = weight * (10 + jolt) / 10;
        if (place == 0) return all;
        int whole = 0;
        if ((s.bags.get(bag)[3] & 2) == 0) whole++;
        if ((s.bags.get(bag)[3] & 4) == 0) whole++;
        return whole == 0 ? 0 : all / whole;
    }

    /** One step of a state with a jolt; what falls, and whether something gave. */
    int[] walk(State s, int jolt, boolean mayGive) {
        char sort = way.charAt(s.step);
        int fell = 0;
        int gave = 0;
        for (int b = 0; b < s.bags.size(); b++) {
            List<Integer> held = in(s, b);
            if (held.isEmpty()) continue;
            int[] bag = s.bags.get(b);
            for (int t : held) bag[1] += things.get(t).damp;
            if (sort == 's') {
                bag[2] += 2;
            } else {
                bag[2] += 1;
                for (int t : held) bag[2] += things.get(t).edges;
            }
            if (bag[1] > 999) bag[1] = 999;
            if (bag[2] > 999) bag[2] = 999;
            if (sort == 's' || !mayGive) continue;
            for (int place = 0; place < 4; place++) {
                if ((bag[3] >> place & 1) == 1 || force(s, b, place, jolt) <= strength(bag, place)) continue;
                gave = 1;
                bag[3] += 1 << place;
                List<Integer> falls = new ArrayList<>();
                if (place == 3) falls.add(held.get(0));
                else if (isTorn(bag)) falls.addAll(held);
                for (int t : falls) s.where.set(t, 10 + s.step);
                fell |= bits(falls);
                break;
            }
        }
        s.step++;
        return new int[] {fell, gave};
    }

    int jolt(State s, int bus) {
        return switch (way.charAt(s.step)) {
            case 'u' -> 2;
            case 'd' -> 3;
            case 'b' -> bus;
            default -> 0;
        };
    }

    int holds(State from, int bus) {
        State s = from.twin();
        while (s.step < way.length()) {
            int at = s.step;
            if (walk(s, jolt(s, bus), true)[1] == 1) return at;
        }
        return NONE;
    }

    static boolean isFarther(int a, int b) {
        return b != NONE && (a == NONE || a > b);
    }

    int buses() {
        int n = 0;
        for (int s = now.step; s < way.length(); s++) if (way.charAt(s) == 'b') n++;
        return n;
    }

    // ---- the calls

    int bag(int kind) {
        if (kind < 0 || kind > 3) return BAD;
        if (now.bags.size() == 3) return FULL;
        now.bags.add(new int[] {kind, 0, 0, 0});
        past.clear();
        return now.bags.size() - 1;
    }

    int thing(int weight, int damp, int edges, int worth, int isRound) {
        if (weight < 1 || weight > 30 || damp < 0 || damp > 5 || edges < 0 || edges > 5) return BAD;
        if (worth < 0 || worth > 99 || isRound < 0 || isRound > 1) return BAD;
        if (things.size() == 8) return FULL;
        things.add(new Thing(weight, damp, edges, worth, isRound == 1));
        now.where.add(NOWHERE);
        past.clear();
        return things.size() - 1;
    }

    int pack(int thing, int bag) {
        if (!isThing(thing) || !isBag(bag)) return BAD;
        if (isTorn(now.bags.get(bag))) return NOT;
        return now.where.set(thing, bag);
    }

    int give(int thing) {
        return isThing(thing) ? now.where.set(thing, NOWHERE) : BAD;
    }

    int of(int bag, int what) {
        if (!isBag(bag) || what < 0 || what > 6) return BAD;
        int[] b = now.bags.get(bag);
        if (what < 4) return b[what];
        if (what == 4) return bits(in(now, bag));
        if (what == 6) return (b[1] + b[2]) / 10;
        return in(now, bag).stream().mapToInt(t -> things.get(t).weight).sum();
    }

    int strength(int bag, int place) {
        return isBag(bag) && place >= 0 && place < 4 ? strength(now.bags.get(bag), place) : BAD;
    }

    int force(int bag, int place, int jolt) {
        if (!isBag(bag) || place < 0 || place > 3 || jolt < 0 || jolt > 7) return BAD;
        return force(now, bag, place, jolt);
    }

    int told(int thing, int what) {
        if (!isThing(thing) || what < 0 || what > 5) return BAD;
        Thing t = things.get(thing);
        return new int[] {t.weight, t.damp, t.edges, t.worth, t.round ? 1 : 0, now.where.get(thing)}[what];
    }

    int set(int bag, int what, int v) {
        if (!isBag(bag) || what < 0 || what > 1 || v < 0 || v > 999) return BAD;
        int was = now.bags.get(bag)[1 + what];
        now.bags.get(bag)[1 + what] = v;
        return was;
    }

    int type(int letter) {
        if (letter < 32 || letter > 126) return BAD;
        if (tape.length() == 100) return FULL;
        tape += (char) letter;
        return tape.length();
    }

    /** The place at which no ending of the text could make it fit: -1 if the text fits. */
    static int faultOf(Pattern pattern, String text) {
        Matcher all = pattern.matcher(text);
        if (all.matches()) return -1;
        for (int n = 1; n <= text.length(); n++) {
            Matcher m = pattern.matcher(text.substring(0, n));
            boolean fits = m.matches();
            if (!fits && !m.hitEnd()) return n - 1;
        }
        return text.length();
    }

    int way() {
        String text = tape;
        tape = "";
        int fault = faultOf(Pattern.compile(" *(?:[.udbs] *){1,20}"), text);
        if (fault >= 0) return -20 - fault;
        way = text.replace(" ", "");
        now.step = 0;
        past.clear();
        return way.length();
    }

    static Pattern shopOf(int bags) {
        String thing = " *[0-9]+ *(?:w *[0-5] *)?(?:e *[0-5] *)?(?:r *)?(?:@ *[0-" + (bags - 1) + "] *)?";
        return Pattern.compile(" *[PDTC] *(?:, *[PDTC] *){" + (bags - 1) + "};" + thing + "(?:," + thing + "){0,7}");
    }

    static int shopFault(String text) {
        int farthest = 0;
        for (int bags = 1; bags <= 3; bags++) {
            int fault = faultOf(shopOf(bags), text);
            if (fault < 0) {
                farthest = -1;
                break;
            }
            farthest = Math.max(farthest, fault);
        }
        int end = farthest < 0 ? text.length() : farthest;
        Matcher number = Pattern.compile("[;,] *([0-9]+)").matcher(text);
        while (number.find()) {
            if (number.start(1) >= end) break;
            java.math.BigInteger v = new java.math.BigInteger(number.group(1));
            if (v.signum() == 0 || v.compareTo(java.math.BigInteger.valueOf(30)) > 0) return number.start(1);
        }
        return farthest;
    }

    int shop() {
        String text = tape;
        tape = "";
        int fault = shopFault(text);
        if (fault >= 0) return -20 - fault;
        String[] halves = text.replace(" ", "").split(";");
        now.bags.clear();
        now.where.clear();
        things.clear();
        past.clear();
        for (String kind : halves[0].split(",")) now.bags.add(new int[] {"PDTC".indexOf(kind), 0, 0, 0});
        Pattern parts = Pattern.compile("([0-9]+)(?:w(.))?(?:e(.))?(r?)(?:@(.))?");
        for (String thing : halves[1].split(",")) {
            Matcher m = parts.matcher(thing);
            if (!m.matches()) throw new IllegalStateException(thing);
            int weight = Integer.parseInt(m.group(1));
            int damp = m.group(2) == null ? 0 : Integer.parseInt(m.group(2));
            int edges = m.group(3) == null ? 0 : Integer.parseInt(m.group(3));
            things.add(new Thing(weight, damp, edges, weight, m.group(4).equals("r")));
            now.where.add(m.group(5) == null ? NOWHERE : Integer.parseInt(m.group(5)));
        }
        return things.size();
    }

    int sort(int step) {
        return step >= 0 && step < way.length() ? ".udbs".indexOf(way.charAt(step)) : BAD;
    }

    int count(int what) {
        int ground = (int) now.where.stream().filter(w -> w >= 10).count();
        int[] all = {now.bags.size(), things.size(), way.length(), now.step, ground, past.size(), buses()};
        return what < 0 || what > 6 ? BAD : all[what];
    }

    int step() {
        if (now.step >= way.length()) return NOT;
        past.add(now.twin());
        if (past.size() > 8) past.remove(0);
        int bus = 0;
        if (way.charAt(now.step) == 'b') {
            now.draw = (now.draw * 1103515245L + 12345L) % (1L << 31);
            bus = (int) (now.draw / 65536 % 8);
        }
        return walk(now, jolt(now, bus), true)[0];
    }

    int undo() {
        if (past.isEmpty()) return NONE;
        now = past.remove(past.size() - 1);
        return past.size();
    }

    int again() {
        int was = now.step;
        now.step = 0;
        return was;
    }

    int seed(int v) {
        if (v < 0) return BAD;
        int was = (int) now.draw;
        now.draw = v;
        return was;
    }

    int holds(int jolt) {
        return jolt < 0 || jolt > 7 ? BAD : holds(now, jolt);
    }

    int lucky(State from) {
        State s = from.twin();
        while (s.step < way.length()) {
            if (way.charAt(s.step) == 'b') {
                int sum = 0;
                for (int j = 0; j < 8; j++) {
                    State next = s.twin();
                    if (walk(next, j, true)[1] == 0) sum += lucky(next);
                }
                return sum;
            }
            if (walk(s, jolt(s, 0), true)[1] == 1) return 0;
        }
        return 1;
    }

    int odds(int what) {
        if (what < 0 || what > 1) return BAD;
        if (buses() > 4) return FULL;
        int upper = lucky(now);
        int lower = (int) Math.pow(8, buses());
        int common = java.math.BigInteger.valueOf(upper).gcd(java.math.BigInteger.valueOf(lower)).intValue();
        return what == 0 ? upper / common : lower / common;
    }

    int bestHolds;
    List<Integer> bestPlaces;

    void tryPackings(State s, int t) {
        if (t == things.size()) {
            int far = holds(s, 7);
            if (bestPlaces == null || isFarther(far, bestHolds)) {
                bestHolds = far;
                bestPlaces = new ArrayList<>(s.where);
            }
        } else if (s.where.get(t) >= 10) {
            tryPackings(s, t + 1);
        } else {
            for (int b = 0; b < s.bags.size(); b++) {
                s.where.set(t, b);
                tryPackings(s, t + 1);
            }
        }
    }

    int packing(int thing) {
        if (thing != -1 && !isThing(thing) || now.bags.isEmpty()) return BAD;
        for (int[] b : now.bags) if (isTorn(b)) return BAD;
        if (things.size() - count(4) > 6) return FULL;
        bestPlaces = null;
        tryPackings(now.twin(), 0);
        if (thing == -1) return bestHolds;
        return bestPlaces.get(thing) >= 10 ? NONE : bestPlaces.get(thing);
    }

    int doubled() {
        int best = NONE;
        int far = holds(now, 7);
        for (int b = 0; b < now.bags.size(); b++) {
            if (now.bags.get(b)[0] != 0) continue;
            State s = now.twin();
            s.bags.get(b)[0] = 1;
            if (isFarther(holds(s, 7), far)) {
                far = holds(s, 7);
                best = b;
            }
        }
        return best;
    }

    int leave(int what) {
        if (what < 0 || what > 1) return BAD;
        long best = Long.MAX_VALUE;
        for (int set = 0; set < 1 << things.size(); set++) {
            State s = now.twin();
            long worth = 0;
            boolean isInBags = true;
            for (int t = 0; t < things.size(); t++) {
                if ((set >> t & 1) == 0) continue;
                isInBags &= s.where.get(t) < NOWHERE;
                s.where.set(t, NOWHERE);
                worth += things.get(t).worth;
            }
            if (!isInBags || holds(s, 7) != NONE) continue;
            best = Math.min(best, worth << 32 | (long) Integer.bitCount(set) << 16 | set);
        }
        return (int) (what == 0 ? best & 0xffff : best >> 32);
    }

    boolean isRolling(int t) {
        return things.get(t).round && now.where.get(t) >= 10;
    }

    int rolls(int thing) {
        if (!isThing(thing)) return BAD;
        if (!isRolling(thing)) return NOT;
        int at = now.where.get(thing) - 10;
        if (at >= way.length()) return 0;
        String run = way.charAt(at) == 'u' ? new StringBuilder(way.substring(0, at + 1)).reverse().toString()
            : way.charAt(at) == 'd' ? way.substring(at) : "-";
        int same = 0;
        while (same < run.length() && run.charAt(same) == run.charAt(0)) same++;
        return same - 1;
    }

    int mostWorth;
    List<Integer> bestOrder;

    void tryOrders(List<Integer> order, List<Integer> rest) {
        if (rest.isEmpty()) {
            int seconds = 0;
            int worth = 0;
            for (int t : order) {
                seconds += 2 * rolls(t) + 1;
                if (rolls(t) == 0 || seconds <= 3 * rolls(t) + 2) worth += things.get(t).worth;
            }
            if (bestOrder == null || worth > mostWorth) {
                mostWorth = worth;
                bestOrder = new ArrayList<>(order);
            }
            return;
        }
        for (int k = 0; k < rest.size(); k++) {
            List<Integer> longer = new ArrayList<>(order);
            longer.add(rest.get(k));
            List<Integer> fewer = new ArrayList<>(rest);
            fewer.remove(k);
            tryOrders(longer, fewer);
        }
    }

    int run(int i) {
        if (i < -1 || i > 7) return BAD;
        List<Integer> rolling = new ArrayList<>();
        for (int t = 0; t < things.size(); t++) if (isRolling(t)) rolling.add(t);
        if (rolling.size() > 6) return FULL;
        bestOrder = null;
        tryOrders(new ArrayList<>(), rolling);
        if (i == -1) return mostWorth;
        return i < bestOrder.size() ? bestOrder.get(i) : NONE;
    }

    int hands(int first, int other, int what) {
        if (!isBag(first) || !isBag(other) || first == other || what < 0 || what > 1) return BAD;
        int best = 0;
        int least = Integer.MAX_VALUE;
        for (int n = 1; n <= 20; n++) {
            int[] borne = new int[2];
            for (int k = 0; k < way.length() - now.step; k++) {
                int hand = k / n % 2;
                borne[hand] += of(first, 5);
                borne[1 - hand] += of(other, 5);
            }
            int tired = Math.max(borne[0], borne[1]);
            if (tired < least) {
                least = tired;
                best = n;
            }
        }
        return what == 0 ? best : least;
    }

    int torn(int bag, int set, int what) {
        if (!isBag(bag) || set <= 0 || set >= 1 << things.size() || what < 0 || what > 1) return BAD;
        int jolts = 0;
        int least = NONE;
        for (int j = 0; j < 8; j++) {
            State s = now.twin();
            while (s.step < way.length()) {
                int at = s.step;
                int held = bits(in(s, bag));
                walk(s, jolt(s, j), true);
                int fell = held - bits(in(s, bag));
                if (fell == 0) continue;
                if (fell == set) {
                    jolts++;
                    if (least == NONE || at < least) least = at;
                }
                break;
            }
        }
        return what == 0 ? jolts : least;
    }

    int image() {
        PlainModel kept = new PlainModel();
        kept.things.addAll(things);
        kept.way = way;
        kept.now = now.twin();
        for (State s : past) kept.past.add(s.twin());
        image = kept;
        return 1;
    }

    int restore() {
        if (image == null) return NONE;
        things = new ArrayList<>(image.things);
        way = image.way;
        now = image.now.twin();
        past = new ArrayList<>();
        for (State s : image.past) past.add(s.twin());
        return 1;
    }

    // ---- sheets

    static int lengthOf(Object sheet) {
        return java.lang.reflect.Array.getLength(sheet);
    }

    static int laneOf(Object sheet) {
        return sheet instanceof byte[] ? 0 : sheet instanceof short[] ? 1 : sheet instanceof int[] ? 2 : 3;
    }

    int fault(int sheet, int lane, int i, int n) {
        if (sheets[sheet] == null) return NULL;
        if (laneOf(sheets[sheet]) != lane) return CAST;
        return i < 0 || (long) i + n > lengthOf(sheets[sheet]) ? INDEX : 0;
    }

    static boolean isOutOf(int v, int limit) {
        return v < 0 || v >= limit;
    }

    static void put(Object sheet, int i, long v) {
        if (sheet instanceof byte[] row) row[i] = (byte) v;
        if (sheet instanceof short[] row) row[i] = (short) v;
        if (sheet instanceof int[] row) row[i] = (int) v;
        if (sheet instanceof long[] row) row[i] = v;
    }

    int sagged(int bag, int sheet, int lane, int i, int n, int what) {
        if (!isBag(bag) || isOutOf(sheet, 4) || isOutOf(lane, 4) || isOutOf(what, 2)) return BAD;
        if (n < 1 || n > 8 || n > way.length() - now.step) return BAD;
        if (fault(sheet, lane, i, n) != 0) return fault(sheet, lane, i, n);
        int wets = 0;
        int least = NONE;
        for (int wet = 0; wet < 100; wet++) {
            State s = now.twin();
            s.bags.get(bag)[1] = wet;
            boolean isSo = true;
            for (int k = 0; k < n; k++) {
                walk(s, 0, false);
                int sag = (s.bags.get(bag)[1] + s.bags.get(bag)[2]) / 10;
                isSo &= sag == java.lang.reflect.Array.getLong(sheets[sheet], i + k);
            }
            if (!isSo) continue;
            wets++;
            if (least == NONE) least = wet;
        }
        return what == 0 ? wets : least;
    }

    int film(int jolt, int sheet, int lane, int i) {
        if (isOutOf(jolt, 8) || isOutOf(sheet, 4) || isOutOf(lane, 4)) return BAD;
        int steps = way.length() - now.step;
        if (fault(sheet, lane, i, steps) != 0) return fault(sheet, lane, i, steps);
        State s = now.twin();
        for (int k = 0; k < steps; k++) put(sheets[sheet], i + k, walk(s, jolt(s, jolt), true)[0]);
        return steps;
    }

    int sheet(int sheet, int lane, int n) {
        if (isOutOf(sheet, 4) || isOutOf(lane, 4) || n > 24) return BAD;
        if (n < 0) return SIZE;
        sheets[sheet] = switch (lane) {
            case 0 -> new byte[n];
            case 1 -> new short[n];
            case 2 -> new int[n];
            default -> new long[n];
        };
        return n;
    }

    int drop(int sheet) {
        if (isOutOf(sheet, 4)) return BAD;
        if (sheets[sheet] == null) return NULL;
        int n = lengthOf(sheets[sheet]);
        sheets[sheet] = null;
        return n;
    }

    int item(int sheet, int lane, int i, long v) {
        if (isOutOf(sheet, 4) || isOutOf(lane, 4)) return BAD;
        if (fault(sheet, lane, i, 1) != 0) return fault(sheet, lane, i, 1);
        put(sheets[sheet], i, v);
        return 1;
    }

    int copy(int from, int i, int to, int j, int n) {
        if (isOutOf(from, 4) || isOutOf(to, 4)) return BAD;
        if (sheets[from] == null || sheets[to] == null) return NULL;
        if (laneOf(sheets[from]) != laneOf(sheets[to])) return CAST;
        try {
            System.arraycopy(sheets[from], i, sheets[to], j, n);
        } catch (IndexOutOfBoundsException e) {
            return INDEX;
        }
        return n;
    }
}
