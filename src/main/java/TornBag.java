import java.util.Arrays;

/**
 * A bag that tears: bags and the things in them, carried home step by step.
 * What each call does stands in the project's document; README.md shows its use.
 * All rows are made with the object and used again, so that calls make nothing new.
 */
public final class TornBag {
    public static final int BAD = -1, NOT = -2, FULL = -3, NONE = -4, NULL = -11, CAST = -12, INDEX = -13, SIZE = -14;

    private static final int BAGS = 3, THINGS = 8, STEPS = 20;
    private static final int LETTERS = 100, UNDOS = 8;
    private static final int SHEETS = 4, LANES = 4, ITEMS = 24;
    private static final int PAPER = 0, DOUBLE = 1, THIN = 2, CLOTH = 3, KINDS = 4;
    private static final int BOTTOM = 0, CORNER = 3, PLACES = 4, BOTH_HANDLES = 6;
    private static final int FLAT = 0, UP = 1, DOWN = 2, BUS = 3, BENCH = 4;
    private static final int MOST_JOLT = 7, JOLTS = 8;
    private static final int MOST_WET = 999;
    /** Where a thing is: a bag's number, NOWHERE, or GROUND and the step. */
    private static final int NOWHERE = 3, GROUND = 10;
    /** Behind every step: it holds till home, which is farther than any step. */
    private static final int NEVER = 99;
    private static final int MOVED = 6, MOVED_SETS = 64;
    private static final int MOST_BUSES = 4, MOST_SAGS = 8, TOLD_WETS = 100;
    private static final int END = -1, FAULT = -20;

    private final World world;
    private final World kept = new World();
    private boolean isKept = false;
    private final Outlook outlook;
    private final Chase chase;
    private final Bag seen = new Bag();
    private final Tape tape = new Tape();
    private final Way readWay = new Way();
    private final Goods readGoods = new Goods();
    private final int[] readWhere = new int[THINGS];
    private final Sheet[] sheets = {new Sheet(), new Sheet(), new Sheet(), new Sheet()};

    public TornBag() {
        World empty = new World();
        world = empty;
        outlook = new Outlook(empty);
        chase = new Chase(empty);
    }

    // ---- 1 bags, things, the way

    public int bag(int kind) {
        if (!isBelow(kind, KINDS)) return BAD;
        if (world.goods.bags >= BAGS) return FULL;
        world.addBag(kind);
        return world.goods.bags - 1;
    }

    public int thing(int weight, int damp, int edges, int worth, int isRound) {
        if (weight < 1 || weight > 30 || !isBelow(damp, 6) || !isBelow(edges, 6)) return BAD;
        if (!isBelow(worth, 100) || !isBelow(isRound, 2)) return BAD;
        if (world.goods.things >= THINGS) return FULL;
        world.addThing(weight, damp, edges, worth, isRound);
        return world.goods.things - 1;
    }

    public int pack(int thing, int bag) {
        if (!world.goods.hasThing(thing) || !world.goods.hasBag(bag)) return BAD;
        if (isTorn(world.now.gone[bag])) return NOT;
        return world.now.moveTo(thing, bag);
    }

    public int give(int thing) {
        if (!world.goods.hasThing(thing)) return BAD;
        return world.now.moveTo(thing, NOWHERE);
    }

    public int of(int bag, int what) {
        if (!world.goods.hasBag(bag)) return BAD;
        world.load(seen, bag, world.thingsAt(bag));
        switch (what) {
            case 0: return seen.kind;
            case 1: return seen.wet;
            case 2: return seen.wear;
            case 3: return seen.gone;
            case 4: return seen.things;
            case 5: return seen.weight;
            case 6: return seen.sag();
            default: return BAD;
        }
    }

    public int strength(int bag, int place) {
        if (!world.goods.hasBag(bag) || !isBelow(place, PLACES)) return BAD;
        world.load(seen, bag, world.thingsAt(bag));
        return seen.strengthAt(place);
    }

    public int force(int bag, int place, int jolt) {
        if (!world.goods.hasBag(bag) || !isBelow(place, PLACES) || !isBelow(jolt, JOLTS)) return BAD;
        world.load(seen, bag, world.thingsAt(bag));
        return seen.forceAt(place, jolt);
    }

    public int told(int thing, int what) {
        Goods goods = world.goods;
        if (!goods.hasThing(thing)) return BAD;
        switch (what) {
            case 0: return goods.weight[thing];
            case 1: return goods.damp[thing];
            case 2: return goods.edges[thing];
            case 3: return goods.worth[thing];
            case 4: return goods.round[thing];
            case 5: return world.now.where[thing];
            default: return BAD;
        }
    }

    public int set(int bag, int what, int v) {
        if (!world.goods.hasBag(bag) || !isBelow(what, 2) || !isBelow(v, MOST_WET + 1)) return BAD;
        int[] row = what == 0 ? world.now.wet : world.now.wear;
        int was = row[bag];
        row[bag] = v;
        return was;
    }

    public int type(int letter) {
        if (letter < 32 || letter > 126) return BAD;
        if (tape.length >= LETTERS) return FULL;
        tape.add(letter);
        return tape.length;
    }

    public int way() {
        int answer = tape.readWay(readWay);
        tape.length = 0;
        if (answer >= 0) world.goAlong(readWay);
        return answer;
    }

    public int shop() {
        int answer = tape.readShop(readGoods, readWhere);
        tape.length = 0;
        if (answer >= 0) world.goWith(readGoods, readWhere);
        return answer;
    }

    public int sort(int step) {
        return isBelow(step, world.way.length) ? world.way.sortAt(step) : BAD;
    }

    public int count(int what) {
        switch (what) {
            case 0: return world.goods.bags;
            case 1: return world.goods.things;
            case 2: return world.way.length;
            case 3: return world.now.step;
            case 4: return Integer.bitCount(world.thingsOnGround());
            case 5: return world.past.known;
            case 6: return world.way.busesFrom(world.now.step);
            default: return BAD;
        }
    }

    // ---- steps

    public int step() {
        if (world.stepsLeft() == 0) return NOT;
        return world.walk(seen);
    }

    public int undo() {
        if (world.past.known == 0) return NONE;
        world.past.takeBack(world.now);
        return world.past.known;
    }

    public int again() {
        int was = world.now.step;
        world.now.step = 0;
        return was;
    }

    public int seed(int v) {
        if (v < 0) return BAD;
        int was = world.now.draw;
        world.now.draw = v;
        return was;
    }

    // ---- 2 what comes

    public int holds(int jolt) {
        if (!isBelow(jolt, JOLTS)) return BAD;
        return toldStep(outlook.firstGive(jolt, NONE));
    }

    public int odds(int what) {
        if (!isBelow(what, 2)) return BAD;
        int buses = world.way.busesFrom(world.now.step);
        if (buses > MOST_BUSES) return FULL;
        int upper = outlook.luckyWays();
        int lower = 1 << 3 * buses;
        while (lower > 1 && upper % 2 == 0) {
            upper /= 2;
            lower /= 2;
        }
        return what == 0 ? upper : lower;
    }

    public int packing(int thing) {
        if (thing != -1 && !world.goods.hasThing(thing)) return BAD;
        if (world.goods.bags == 0 || world.hasTornBag()) return BAD;
        if (Integer.bitCount(world.thingsToPack()) > MOVED) return FULL;
        outlook.findPacking();
        return thing == -1 ? toldStep(outlook.bestReach) : outlook.packedBag(thing);
    }

    public int doubled() {
        return outlook.bagToDouble();
    }

    public int leave(int what) {
        if (!isBelow(what, 2)) return BAD;
        int left = outlook.leftThings();
        return what == 0 ? left : sumOf(world.goods.worth, left);
    }

    public int rolls(int thing) {
        if (!world.goods.hasThing(thing)) return BAD;
        if (!world.isRolling(thing)) return NOT;
        return world.rollOf(thing);
    }

    public int run(int i) {
        if (i < -1 || i >= THINGS) return BAD;
        if (Integer.bitCount(world.thingsRolling()) > MOVED) return FULL;
        chase.findOrder();
        return i == -1 ? chase.most[0] : chase.thingAt(i);
    }

    public int hands(int first, int other, int what) {
        if (!world.goods.hasBag(first) || !world.goods.hasBag(other)) return BAD;
        if (first == other || !isBelow(what, 2)) return BAD;
        int left = sumOf(world.goods.weight, world.thingsAt(first));
        int right = sumOf(world.goods.weight, world.thingsAt(other));
        int best = 1;
        int least = tiredBy(left, right, 1);
        for (int n = 2; n <= STEPS; n++) {
            int tired = tiredBy(left, right, n);
            if (tired < least) {
                least = tired;
                best = n;
            }
        }
        return what == 0 ? best : least;
    }

    public int torn(int bag, int set, int what) {
        if (!world.goods.hasBag(bag) || !isBelow(what, 2)) return BAD;
        if (set < 1 || set >= 1 << world.goods.things) return BAD;
        int jolts = 0;
        int least = NEVER;
        for (int jolt = 0; jolt < JOLTS; jolt++) {
            int at = outlook.firstFall(bag, jolt, set);
            if (at < NEVER) jolts++;
            least = Math.min(least, at);
        }
        return what == 0 ? jolts : toldStep(least);
    }

    public int image() {
        kept.take(world);
        isKept = true;
        return 1;
    }

    public int restore() {
        if (!isKept) return NONE;
        world.take(kept);
        return 1;
    }

    // ---- 3 sheets

    public int sagged(int bag, int sheet, int lane, int i, int n, int what) {
        if (!world.goods.hasBag(bag) || !isSheetAndLane(sheet, lane) || !isBelow(what, 2)) return BAD;
        if (n < 1 || n > MOST_SAGS || n > world.stepsLeft()) return BAD;
        int refused = sheets[sheet].refusal(lane, i, n);
        if (refused != 0) return refused;
        int wets = 0;
        int least = NONE;
        for (int wet = TOLD_WETS - 1; wet >= 0; wet--) {
            if (outlook.sagsAs(bag, wet, sheets[sheet], i, n)) {
                wets++;
                least = wet;
            }
        }
        return what == 0 ? wets : least;
    }

    public int film(int jolt, int sheet, int lane, int i) {
        if (!isBelow(jolt, JOLTS) || !isSheetAndLane(sheet, lane)) return BAD;
        int steps = world.stepsLeft();
        int refused = sheets[sheet].refusal(lane, i, steps);
        if (refused != 0) return refused;
        outlook.findFalls(jolt);
        for (int k = 0; k < steps; k++) sheets[sheet].put(i + k, outlook.fallen[world.now.step + k]);
        return steps;
    }

    public int sheet(int sheet, int lane, int n) {
        if (!isSheetAndLane(sheet, lane) || n > ITEMS) return BAD;
        if (n < 0) return SIZE;
        sheets[sheet].lay(lane, n);
        return n;
    }

    public int drop(int sheet) {
        if (!isBelow(sheet, SHEETS)) return BAD;
        if (sheets[sheet].isMissing) return NULL;
        sheets[sheet].isMissing = true;
        return sheets[sheet].length;
    }

    public int item(int sheet, int lane, int i, long v) {
        if (!isSheetAndLane(sheet, lane)) return BAD;
        int refused = sheets[sheet].refusal(lane, i, 1);
        if (refused != 0) return refused;
        sheets[sheet].put(i, v);
        return 1;
    }

    public int copy(int from, int i, int to, int j, int n) {
        if (!isBelow(from, SHEETS) || !isBelow(to, SHEETS)) return BAD;
        Sheet source = sheets[from];
        Sheet target = sheets[to];
        if (source.isMissing || target.isMissing) return NULL;
        if (source.lane != target.lane) return CAST;
        if (!source.spans(i, n) || !target.spans(j, n)) return INDEX;
        System.arraycopy(source.items, i, target.items, j, n);
        return n;
    }

    // ---- what several calls share

    private static boolean isBelow(int number, int limit) {
        return number >= 0 && number < limit;
    }

    private static boolean isSheetAndLane(int sheet, int lane) {
        return isBelow(sheet, SHEETS) && isBelow(lane, LANES);
    }

    private static boolean has(int things, int thing) {
        return (things >> thing & 1) != 0;
    }

    private static boolean isTorn(int gone) {
        return has(gone, BOTTOM) || (gone & BOTH_HANDLES) == BOTH_HANDLES;
    }

    private static int sumOf(int[] row, int things) {
        int sum = 0;
        for (int t = 0; t < row.length; t++) {
            if (has(things, t)) sum += row[t];
        }
        return sum;
    }

    private static void takeRow(int[] into, int[] from) {
        System.arraycopy(from, 0, into, 0, Math.min(from.length, into.length));
    }

    private static int toldStep(int step) {
        return step == NEVER ? NONE : step;
    }

    /** What the hand that bears more has borne at home, if hands change every n steps. */
    private int tiredBy(int first, int other, int n) {
        int left = 0;
        int right = 0;
        boolean isChanged = false;
        int since = 0;
        for (int s = world.now.step; s < world.way.length; s++) {
            if (since == n) {
                isChanged = !isChanged;
                since = 0;
            }
            left += isChanged ? other : first;
            right += isChanged ? first : other;
            since++;
        }
        return Math.max(left, right);
    }

    /** What no step changes: of which kinds the bags are, and what the things are like. */
    private static final class Goods {
        final int[] kind = new int[BAGS];
        final int[] weight = new int[THINGS];
        final int[] damp = new int[THINGS];
        final int[] edges = new int[THINGS];
        final int[] worth = new int[THINGS];
        final int[] round = new int[THINGS];
        int bags = 0;
        int things = 0;

        boolean hasBag(int b) {
            return isBelow(b, bags);
        }

        boolean hasThing(int t) {
            return isBelow(t, things);
        }

        void addBag(int k) {
            if (bags >= BAGS) return;
            kind[bags] = k;
            bags++;
        }

        void addThing(int w, int d, int e, int price, int isRound) {
            if (things >= THINGS) return;
            weight[things] = w;
            damp[things] = d;
            edges[things] = e;
            worth[things] = price;
            round[things] = isRound;
            things++;
        }

        void take(Goods from) {
            takeRow(kind, from.kind);
            takeRow(weight, from.weight);
            takeRow(damp, from.damp);
            takeRow(edges, from.edges);
            takeRow(worth, from.worth);
            takeRow(round, from.round);
            bags = from.bags;
            things = from.things;
        }
    }

    private static final class Way {
        final int[] sorts = new int[STEPS];
        int length = 0;

        /** BAD for a step that there is not: a thing may lie at one of an older, longer way. */
        int sortAt(int s) {
            return s >= 0 && s < length && s < STEPS ? sorts[s] : BAD;
        }

        int joltAt(int s, int busJolt) {
            switch (sortAt(s)) {
                case UP: return 2;
                case DOWN: return 3;
                case BUS: return busJolt;
                default: return 0;
            }
        }

        int busesFrom(int first) {
            int buses = 0;
            for (int s = first; s < length; s++) {
                if (sortAt(s) == BUS) buses++;
            }
            return buses;
        }

        int rollFrom(int s) {
            int stair = sortAt(s);
            if (stair != UP && stair != DOWN) return 0;
            int ahead = stair == UP ? -1 : 1;
            int far = 0;
            while (far < STEPS && sortAt(s + ahead * (far + 1)) == stair) far++;
            return far;
        }

        void take(Way from) {
            takeRow(sorts, from.sorts);
            length = from.length;
        }
    }

    /** All that a step can change, and so all that is kept for it to be undone. */
    private static final class Moment {
        final int[] wet = new int[BAGS];
        final int[] wear = new int[BAGS];
        final int[] gone = new int[BAGS];
        final int[] where = new int[THINGS];
        int step = 0;
        int draw = 1;

        int moveTo(int t, int place) {
            if (!isBelow(t, THINGS)) return BAD;
            int was = where[t];
            where[t] = place;
            return was;
        }

        void makeWhole(int b) {
            if (!isBelow(b, BAGS)) return;
            wet[b] = 0;
            wear[b] = 0;
            gone[b] = 0;
        }

        /** The product wraps, which leaves its lowest 31 bits as they should be. */
        int drawJolt() {
            draw = draw * 1103515245 + 12345 & 0x7fffffff;
            return draw / 65536 % JOLTS;
        }

        void take(Moment from) {
            takeRow(wet, from.wet);
            takeRow(wear, from.wear);
            takeRow(gone, from.gone);
            takeRow(where, from.where);
            step = from.step;
            draw = from.draw;
        }
    }

    /** The moments ahead of the latest steps, in a ring, so that the oldest one makes room. */
    private static final class Past {
        final Moment[] moments = new Moment[UNDOS];
        int next = 0;
        int known = 0;

        Past() {
            for (int k = 0; k < UNDOS; k++) moments[k] = new Moment();
        }

        void keep(Moment now) {
            moments[next].take(now);
            next = (next + 1) % UNDOS;
            known = Math.min(known + 1, UNDOS);
        }

        void takeBack(Moment now) {
            if (known == 0) return;
            next = (next + UNDOS - 1) % UNDOS;
            known--;
            now.take(moments[next]);
        }

        void take(Past from) {
            for (int k = 0; k < UNDOS; k++) moments[k].take(from.moments[k]);
            next = from.next;
            known = from.known;
        }
    }

    /** All that an image keeps. */
    private static final class World {
        final Goods goods = new Goods();
        final Way way = new Way();
        final Moment now = new Moment();
        final Past past = new Past();

        void addBag(int kind) {
            now.makeWhole(goods.bags);
            goods.addBag(kind);
            past.known = 0;
        }

        void addThing(int weight, int damp, int edges, int worth, int isRound) {
            now.moveTo(goods.things, NOWHERE);
            goods.addThing(weight, damp, edges, worth, isRound);
            past.known = 0;
        }

        void goAlong(Way other) {
            way.take(other);
            now.step = 0;
            past.known = 0;
        }

        void goWith(Goods other, int[] where) {
            goods.take(other);
            takeRow(now.where, where);
            for (int b = 0; b < BAGS; b++) now.makeWhole(b);
            past.known = 0;
        }

        void take(World from) {
            goods.take(from.goods);
            way.take(from.way);
            now.take(from.now);
            past.take(from.past);
        }

        int stepsLeft() {
            return Math.max(0, way.length - now.step);
        }

        int thingsAt(int place) {
            int things = 0;
            for (int t = 0; t < goods.things; t++) {
                if (now.where[t] == place) things |= 1 << t;
            }
            return things;
        }

        int thingsOnGround() {
            int things = 0;
            for (int t = 0; t < goods.things; t++) {
                if (now.where[t] >= GROUND) things |= 1 << t;
            }
            return things;
        }

        int thingsToPack() {
            return (1 << goods.things) - 1 & ~thingsOnGround();
        }

        boolean isRolling(int t) {
            return goods.hasThing(t) && goods.round[t] == 1 && now.where[t] >= GROUND;
        }

        int thingsRolling() {
            int things = 0;
            for (int t = 0; t < goods.things; t++) {
                if (isRolling(t)) things |= 1 << t;
            }
            return things;
        }

        int rollOf(int t) {
            return isRolling(t) ? way.rollFrom(now.where[t] - GROUND) : 0;
        }

        boolean hasTornBag() {
            for (int b = 0; b < goods.bags; b++) {
                if (isTorn(now.gone[b])) return true;
            }
            return false;
        }

        void load(Bag into, int b, int things) {
            if (!goods.hasBag(b)) return;
            into.kind = goods.kind[b];
            into.wet = now.wet[b];
            into.wear = now.wear[b];
            into.gone = now.gone[b];
            into.hold(goods, things);
        }

        int walk(Bag carried) {
            past.keep(now);
            int sort = way.sortAt(now.step);
            int jolt = sort == BUS ? now.drawJolt() : way.joltAt(now.step, 0);
            int fallen = 0;
            for (int b = 0; b < goods.bags; b++) {
                load(carried, b, thingsAt(b));
                fallen |= carried.carry(goods, sort, jolt);
                now.wet[b] = carried.wet;
                now.wear[b] = carried.wear;
                now.gone[b] = carried.gone;
            }
            for (int t = 0; t < goods.things; t++) {
                if (has(fallen, t)) now.where[t] = GROUND + now.step;
            }
            now.step++;
            return fallen;
        }
    }

    /** One bag on trial: no bag touches another, so each is carried alone, away from the world. */
    private static final class Bag {
        int kind = PAPER;
        int wet = 0;
        int wear = 0;
        int gone = 0;
        int things = 0;
        int weight = 0;
        int damp = 0;
        int edges = 0;

        void hold(Goods goods, int set) {
            things = set;
            weight = sumOf(goods.weight, set);
            damp = sumOf(goods.damp, set);
            edges = sumOf(goods.edges, set);
        }

        int sag() {
            return (wet + wear) / 10;
        }

        int strengthAt(int place) {
            switch (kind) {
                case PAPER: return Math.max(0, paperAt(place));
                case DOUBLE: return Math.max(0, paperAt(place) + 40);
                case THIN: return Math.max(0, thinAt(place));
                default: return Math.max(0, thinAt(place) + wear + 30);
            }
        }

        /** May be below 0: what lies below paper adds to it first. */
        private int paperAt(int place) {
            if (place == BOTTOM) return 90 - wear - 2 * wet;
            if (place == CORNER) return 90 - wear - wet;
            return 60 - wear - wet;
        }

        /** May be below 0, as for paper. */
        private int thinAt(int place) {
            return (place == CORNER ? 50 : 70) - 2 * wear;
        }

        int forceAt(int place, int jolt) {
            if (place == CORNER) return 3 * edges;
            int pull = weight * (10 + jolt) / 10;
            if (place == BOTTOM) return pull;
            int whole = 2 - Integer.bitCount(gone & BOTH_HANDLES);
            return whole <= 0 ? 0 : pull / whole;
        }

        /** The place that gives, BAD if none does. */
        int weakPlace(int sort, int jolt) {
            if (sort == BENCH) return BAD;
            for (int place = BOTTOM; place < PLACES; place++) {
                if (!has(gone, place) && forceAt(place, jolt) > strengthAt(place)) return place;
            }
            return BAD;
        }

        void age(int sort) {
            if (things == 0) return;
            wet = Math.min(MOST_WET, wet + damp);
            wear = Math.min(MOST_WET, wear + (sort == BENCH ? 2 : 1 + edges));
        }

        /** Carried over one step: the things that fall. */
        int carry(Goods goods, int sort, int jolt) {
            if (things == 0) return 0;
            age(sort);
            int place = weakPlace(sort, jolt);
            if (place < 0) return 0;
            gone |= 1 << place;
            int fallen = fallenBy(place);
            if (fallen != 0) hold(goods, things & ~fallen);
            return fallen;
        }

        private int fallenBy(int place) {
            if (place == CORNER) return things & -things;
            return isTorn(gone) ? things : 0;
        }

        /** The step at which a place gives first. */
        int firstGive(Way way, int from, int busJolt) {
            if (things == 0) return NEVER;
            for (int s = from; s < way.length; s++) {
                int sort = way.sortAt(s);
                age(sort);
                if (weakPlace(sort, way.joltAt(s, busJolt)) >= 0) return s;
            }
            return NEVER;
        }

        /** How many jolts of a bus it bears: what it bears by a jolt it bears by each smaller one. */
        int joltsBorne() {
            for (int jolt = 0; jolt < JOLTS; jolt++) {
                if (weakPlace(BUS, jolt) >= 0) return jolt;
            }
            return JOLTS;
        }
    }

    /** What would come, found on a bag on trial; it changes nothing in the world. */
    private static final class Outlook {
        private final World world;
        private final Bag trial = new Bag();
        /** By steps: what falls there. */
        final int[] fallen = new int[STEPS];
        /** By steps: by how many of its jolts nothing gives. */
        private final int[] lucky = new int[STEPS];
        private final int[] moved = new int[MOVED];
        private int moves = 0;
        /** By bags, and sets of what is moved: the step at which the bag gives with these. */
        private final int[] reach = new int[BAGS * MOVED_SETS];
        private final int[] row = new int[MOVED];
        private final int[] bestRow = new int[MOVED];
        int bestReach = NEVER;

        Outlook(World world) {
            this.world = world;
        }

        private int giveWith(int b, int things, int jolt) {
            world.load(trial, b, things);
            return trial.firstGive(world.way, world.now.step, jolt);
        }

        /** The step at which a bag gives first, if the one that is told (or none) were DOUBLE. */
        int firstGive(int jolt, int doubledBag) {
            int first = NEVER;
            for (int b = 0; b < world.goods.bags; b++) {
                world.load(trial, b, world.thingsAt(b));
                if (b == doubledBag) trial.kind = DOUBLE;
                first = Math.min(first, trial.firstGive(world.way, world.now.step, jolt));
            }
            return first;
        }

        int bagToDouble() {
            int best = NONE;
            int farthest = firstGive(MOST_JOLT, NONE);
            for (int b = 0; b < world.goods.bags; b++) {
                if (world.goods.kind[b] != PAPER) continue;
                int far = firstGive(MOST_JOLT, b);
                if (far > farthest) {
                    farthest = far;
                    best = b;
                }
            }
            return best;
        }

        /** Of all rows of jolts of the buses that are left, by how many all holds till home. */
        int luckyWays() {
            Way way = world.way;
            for (int s = 0; s < STEPS; s++) lucky[s] = way.sortAt(s) == BUS ? JOLTS : 1;
            for (int b = 0; b < world.goods.bags; b++) narrowLuck(b);
            int ways = 1;
            for (int s = world.now.step; s < way.length; s++) ways *= lucky[s];
            return ways;
        }

        /** Till something gives, no jolt changes a bag: so each step's jolts are counted apart. */
        private void narrowLuck(int b) {
            Way way = world.way;
            world.load(trial, b, world.thingsAt(b));
            for (int s = world.now.step; s < way.length; s++) {
                int sort = way.sortAt(s);
                trial.age(sort);
                if (sort == BUS) {
                    lucky[s] = Math.min(lucky[s], trial.joltsBorne());
                } else if (trial.weakPlace(sort, way.joltAt(s, 0)) >= 0) {
                    lucky[s] = 0;
                }
            }
        }

        void findPacking() {
            listMoved();
            measureReach();
            int bags = world.goods.bags;
            int rows = 1;
            for (int k = 0; k < moves; k++) rows *= bags;
            Arrays.fill(row, 0);
            bestReach = -1;
            for (int tried = 0; tried < rows; tried++) {
                int far = reachOfRow();
                if (far > bestReach) {
                    bestReach = far;
                    takeRow(bestRow, row);
                }
                nextRow(bags);
            }
        }

        private void listMoved() {
            int things = world.thingsToPack();
            moves = 0;
            for (int t = 0; t < THINGS && moves < MOVED; t++) {
                if (has(things, t)) {
                    moved[moves] = t;
                    moves++;
                }
            }
        }

        private void measureReach() {
            for (int chosen = 0; chosen < 1 << moves; chosen++) {
                int things = 0;
                for (int k = 0; k < moves; k++) {
                    if (has(chosen, k)) things |= 1 << moved[k];
                }
                for (int b = 0; b < world.goods.bags; b++) {
                    reach[b * MOVED_SETS + chosen] = giveWith(b, things, MOST_JOLT);
                }
            }
        }

        private int reachOfRow() {
            int far = NEVER;
            for (int b = 0; b < world.goods.bags; b++) {
                int chosen = 0;
                for (int k = 0; k < moves; k++) {
                    if (row[k] == b) chosen |= 1 << k;
                }
                far = Math.min(far, reach[b * MOVED_SETS + chosen]);
            }
            return far;
        }

        private void nextRow(int bags) {
            for (int k = moves - 1; k >= 0; k--) {
                row[k]++;
                if (row[k] < bags) return;
                row[k] = 0;
            }
        }

        int packedBag(int t) {
            for (int k = 0; k < moves; k++) {
                if (moved[k] == t) return bestRow[k];
            }
            return NONE;
        }

        /** Worth, how many, and the set as a number all add up over the bags: so each bag alone. */
        int leftThings() {
            int left = 0;
            for (int b = 0; b < world.goods.bags; b++) left |= leftOf(b);
            return left;
        }

        private int leftOf(int b) {
            int all = world.thingsAt(b);
            int best = all;
            for (int set = 0; set < 1 << THINGS; set++) {
                if ((set & ~all) != 0 || !isLessLoss(set, best)) continue;
                if (giveWith(b, all & ~set, MOST_JOLT) == NEVER) best = set;
            }
            return best;
        }

        private boolean isLessLoss(int set, int other) {
            int more = sumOf(world.goods.worth, set) - sumOf(world.goods.worth, other);
            if (more != 0) return more < 0;
            int larger = Integer.bitCount(set) - Integer.bitCount(other);
            return larger != 0 ? larger < 0 : set < other;
        }

        void findFalls(int jolt) {
            Arrays.fill(fallen, 0);
            for (int b = 0; b < world.goods.bags; b++) addFalls(b, jolt);
        }

        private void addFalls(int b, int jolt) {
            Way way = world.way;
            world.load(trial, b, world.thingsAt(b));
            for (int s = world.now.step; s < way.length; s++) {
                fallen[s] |= trial.carry(world.goods, way.sortAt(s), way.joltAt(s, jolt));
            }
        }

        /** The step at which the first things to fall of a bag are just these, NEVER if they are not. */
        int firstFall(int b, int jolt, int things) {
            Arrays.fill(fallen, 0);
            addFalls(b, jolt);
            for (int s = 0; s < STEPS; s++) {
                if (fallen[s] != 0) return fallen[s] == things ? s : NEVER;
            }
            return NEVER;
        }

        boolean sagsAs(int b, int wet, Sheet sags, int i, int n) {
            world.load(trial, b, world.thingsAt(b));
            trial.wet = wet;
            for (int k = 0; k < n; k++) {
                trial.age(world.way.sortAt(world.now.step + k));
                if (trial.sag() != sags.valueAt(i + k)) return false;
            }
            return true;
        }
    }

    /** After which of the rolling things to run first. */
    private static final class Chase {
        private final World world;
        private final int[] runner = new int[MOVED];
        private final int[] roll = new int[MOVED];
        private int runners = 0;
        /** By sets of those that one has run after: the most worth that can be had of the rest. */
        final int[] most = new int[MOVED_SETS];

        Chase(World world) {
            this.world = world;
        }

        void findOrder() {
            listRunners();
            int all = (1 << runners) - 1;
            most[all] = 0;
            for (int behind = all - 1; behind >= 0; behind--) {
                int best = 0;
                for (int k = 0; k < runners; k++) {
                    if (!has(behind, k)) best = Math.max(best, worthBy(behind, k));
                }
                most[behind] = best;
            }
        }

        private void listRunners() {
            int things = world.thingsRolling();
            runners = 0;
            for (int t = 0; t < THINGS && runners < MOVED; t++) {
                if (has(things, t)) {
                    runner[runners] = t;
                    roll[runners] = world.rollOf(t);
                    runners++;
                }
            }
        }

        /** The most worth that can be had of the rest, if one runs after the k-th next. */
        private int worthBy(int behind, int k) {
            int rest = most[behind | 1 << k];
            return isHad(behind, k) ? rest + world.goods.worth[runner[k]] : rest;
        }

        private boolean isHad(int behind, int k) {
            if (roll[k] == 0) return true;
            int reached = 0;
            for (int other = 0; other < runners; other++) {
                if (other == k || has(behind, other)) reached += 2 * roll[other] + 1;
            }
            return reached <= 3 * roll[k] + 2;
        }

        /** The first that loses nothing is taken at each place: that is the first of the best rows. */
        int thingAt(int i) {
            if (i < 0 || i >= runners) return NONE;
            int behind = 0;
            for (int place = 0; place < i; place++) behind |= 1 << firstBest(behind);
            return runner[firstBest(behind)];
        }

        private int firstBest(int behind) {
            for (int k = 0; k < runners; k++) {
                if (!has(behind, k) && worthBy(behind, k) == most[behind]) return k;
            }
            return 0;
        }
    }

    /** The letters that have been typed, and how ways and shops are read from them. */
    private static final class Tape {
        private final int[] letters = new int[LETTERS];
        int length = 0;
        private int at = 0;

        void add(int letter) {
            if (length >= LETTERS) return;
            letters[length] = letter;
            length++;
        }

        /** The next letter behind blanks; `at` is its place then, or the end. */
        private int next() {
            while (at < length && at < LETTERS && letters[at] == ' ') at++;
            return at < length && at < LETTERS ? letters[at] : END;
        }

        private int faultHere() {
            return FAULT - at;
        }

        int readWay(Way into) {
            at = 0;
            for (int n = 0; n < STEPS; n++) {
                int sort = sortOf(next());
                if (sort < 0) break;
                into.sorts[n] = sort;
                into.length = n + 1;
                at++;
                if (next() == END) return n + 1;
            }
            return faultHere();
        }

        private static int sortOf(int letter) {
            switch (letter) {
                case '.': return FLAT;
                case 'u': return UP;
                case 'd': return DOWN;
                case 'b': return BUS;
                case 's': return BENCH;
                default: return BAD;
            }
        }

        int readShop(Goods into, int[] where) {
            at = 0;
            into.bags = 0;
            into.things = 0;
            Arrays.fill(where, NOWHERE);
            if (!readBags(into) || !readThings(into, where)) return faultHere();
            return into.things;
        }

        private boolean readBags(Goods into) {
            for (int b = 0; b < BAGS; b++) {
                int kind = kindOf(next());
                if (kind < 0) return false;
                into.addBag(kind);
                at++;
                int mark = next();
                if (mark == ';') {
                    at++;
                    return true;
                }
                if (mark != ',' || b == BAGS - 1) return false;
                at++;
            }
            return false;
        }

        private static int kindOf(int letter) {
            switch (letter) {
                case 'P': return PAPER;
                case 'D': return DOUBLE;
                case 'T': return THIN;
                case 'C': return CLOTH;
                default: return BAD;
            }
        }

        private boolean readThings(Goods into, int[] where) {
            for (int t = 0; t < where.length; t++) {
                where[t] = readThing(into);
                if (where[t] < 0) return false;
                int mark = next();
                if (mark == END) return true;
                if (mark != ',' || t == where.length - 1) return false;
                at++;
            }
            return false;
        }

        /** Where the thing is, BAD for a fault. */
        private int readThing(Goods into) {
            int weight = readWeight();
            if (weight < 0) return BAD;
            int damp = readMarked('w', 6, 0);
            if (damp < 0) return BAD;
            int edges = readMarked('e', 6, 0);
            if (edges < 0) return BAD;
            int isRound = next() == 'r' ? 1 : 0;
            at += isRound;
            int place = readMarked('@', into.bags, NOWHERE);
            if (place < 0) return BAD;
            into.addThing(weight, damp, edges, weight, isRound);
            return place;
        }

        private int readWeight() {
            next();
            int first = at;
            int weight = 0;
            while (at < length && at < LETTERS && letters[at] >= '0' && letters[at] <= '9') {
                weight = Math.min(99, weight * 10 + letters[at] - '0');
                at++;
            }
            if (weight >= 1 && weight <= 30) return weight;
            at = first;
            return BAD;
        }

        /** The digit behind a mark; what holds without the mark, if it is not there. */
        private int readMarked(int mark, int limit, int without) {
            if (next() != mark) return without;
            at++;
            int digit = next() - '0';
            if (!isBelow(digit, limit)) return BAD;
            at++;
            return digit;
        }
    }

    /** A row of a lane; its room stays, whatever it holds. */
    private static final class Sheet {
        final long[] items = new long[ITEMS];
        boolean isMissing = true;
        int lane = 0;
        int length = 0;

        void lay(int newLane, int n) {
            isMissing = false;
            lane = newLane;
            length = Math.min(n, ITEMS);
            Arrays.fill(items, 0L);
        }

        boolean spans(int i, int n) {
            return i >= 0 && n >= 0 && n <= length && i <= length - n;
        }

        /** What the machine would find with n items from i on; 0 if nothing. */
        int refusal(int asLane, int i, int n) {
            if (isMissing) return NULL;
            if (asLane != lane) return CAST;
            return spans(i, n) ? 0 : INDEX;
        }

        long valueAt(int i) {
            return isBelow(i, ITEMS) ? items[i] : 0L;
        }

        void put(int i, long v) {
            if (isBelow(i, ITEMS)) items[i] = lowestBits(v);
        }

        private long lowestBits(long v) {
            switch (lane) {
                case 0: return (byte) v;
                case 1: return (short) v;
                case 2: return (int) v;
                default: return v;
            }
        }
    }
}
