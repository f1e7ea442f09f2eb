import java.util.Random;

/** Long runs of calls drawn by a fixed seed: the class and the plain model must answer alike. */
public final class RandomRunsTest {
    private static final int RUNS = 2000, FILMS = 4000;
    /** The most letters of a text and its call: with fewer calls left, calls that make several are not drawn. */
    private static final int TEXT = 110;
    private static final String[] CALL = {"bag", "thing", "pack", "give", "of", "strength", "force", "told", "set", "type",
        "way", "shop", "sort", "count", "step", "undo", "again", "seed", "holds", "odds", "packing", "doubled", "leave",
        "rolls", "run", "hands", "torn", "image", "restore", "sagged", "film", "sheet", "drop", "item", "copy"};
    private static final int[] OFTEN = {1, 2, 12, 2, 6, 4, 4, 6, 6, 1,
        1, 1, 2, 6, 14, 3, 2, 2, 4, 3, 2, 3, 3,
        6, 4, 4, 6, 1, 1, 8, 3, 3, 1, 4, 5};

    private final Random random;
    private final TornBag x = new TornBag();
    private final PlainModel y = new PlainModel();
    private int calls = 0;

    private RandomRunsTest(long seed) {
        random = new Random(seed);
    }

    public static void main(String[] args) {
        for (int run = 0; run < RUNS; run++) new RandomRunsTest(run).go(run);
        for (int run = 0; run < FILMS; run++) new RandomRunsTest(-1 - run).goFilm(run);
        Check.end("RandomRunsTest");
    }

    private int below(int n) {
        return random.nextInt(n);
    }

    /** Mostly a number of 0 .. n - 1, at times just outside, at times far outside. */
    private int about(int n) {
        int dice = below(60);
        if (dice == 0) return -1;
        if (dice == 1) return n;
        if (dice == 2) return random.nextBoolean() ? Integer.MAX_VALUE : Integer.MIN_VALUE;
        return below(n);
    }

    private void go(int run) {
        int all = 0;
        for (int often : OFTEN) all += often;
        while (calls < Calls.MOST) {
            int dice = below(all);
            int which = 0;
            while (dice >= OFTEN[which]) dice -= OFTEN[which++];
            if (calls == 0) which = 10;
            if (calls > 0 && y.count(0) == 0) which = 11;
            if (calls > Calls.MOST - TEXT && isLong(CALL[which])) which = 14;
            call("run " + run + " call " + calls + " ", CALL[which]);
        }
    }

    private static boolean isLong(String name) {
        return name.equals("way") || name.equals("shop") || name.equals("sagged");
    }

    /** A film's items can be seen by the sags of an empty bag alone, so a new shop comes behind it. */
    private void goFilm(int run) {
        String say = "film " + run + " ";
        typeText(say, wayText());
        due(say + "way", x.way(), y.way());
        typeText(say, shopText());
        due(say + "shop", x.shop(), y.shop());
        for (int b = 0; b < 3; b++) {
            for (int what = 0; what < 2; what++) {
                int v = below(30);
                due(say + "set", x.set(b, what, v), y.set(b, what, v));
            }
        }
        int lane = below(4);
        int jolt = below(8);
        due(say + "sheet", x.sheet(0, lane, 24), y.sheet(0, lane, 24));
        due(say + "film", x.film(jolt, 0, lane, 2), y.film(jolt, 0, lane, 2));
        typeText(say, ".");
        due(say + "way", x.way(), y.way());
        typeText(say, "C;1");
        due(say + "shop", x.shop(), y.shop());
        for (int i = 0; i < 24; i++) {
            int wear = (int) Math.max(0, Math.min(999, java.lang.reflect.Array.getLong(y.sheets[0], i) * 10 - 50));
            due(say + "set", x.set(0, 1, wear), y.set(0, 1, wear));
            due(say + "item " + i, x.sagged(0, 0, lane, i, 1, 1), y.sagged(0, 0, lane, i, 1, 1));
        }
    }

    private void due(String say, int got, int want) {
        calls++;
        Check.due(say, got, want);
    }

    private String letters(String from, int most) {
        StringBuilder text = new StringBuilder();
        for (int k = below(most + 1); k > 0; k--) text.append(from.charAt(below(from.length())));
        return text.toString();
    }

    private String wayText() {
        String stairs = below(2) == 0 ? "uuuuddddd" : "";
        return letters(".udbs" + stairs, 20) + (below(3) == 0 ? letters(" ", 2) : ".");
    }

    private String shopText() {
        StringBuilder text = new StringBuilder();
        int bags = 1 + below(3);
        for (int b = 0; b < bags; b++) text.append(b > 0 ? "," : "").append("PDTC".charAt(below(4)));
        text.append(';');
        int things = 1 + below(below(3) == 0 ? 8 : 6);
        for (int t = 0; t < things; t++) {
            text.append(t > 0 ? "," : "").append(1 + below(30));
            if (below(2) == 0) text.append('w').append(below(6));
            if (below(2) == 0) text.append('e').append(below(below(2) == 0 ? 2 : 6));
            if (below(3) > 0) text.append('r');
            if (below(5) > 0) text.append('@').append(below(bags));
        }
        return text.toString();
    }

    private String spoilt(String text) {
        if (below(3) > 0) return text;
        StringBuilder worse = new StringBuilder(text);
        for (int k = below(3); k >= 0; k--) {
            int at = below(worse.length() + 1);
            int dice = below(4);
            if (dice == 0 && at < worse.length()) worse.deleteCharAt(at);
            else if (dice == 1 && at < worse.length()) worse.setCharAt(at, "PDTC;,0123456789wer@.udbs x".charAt(below(27)));
            else if (dice == 2) worse.insert(at, ' ');
            else worse.insert(at, "PDTC;,0123456789wer@.udbs x".charAt(below(27)));
        }
        return worse.toString();
    }

    private void typeText(String say, String text) {
        for (int k = 0; k < text.length(); k++) due(say + "type", x.type(text.charAt(k)), y.type(text.charAt(k)));
    }

    private void call(String say, String name) {
        say += name;
        switch (name) {
            case "way" -> {
                String text = spoilt(wayText());
                typeText(say, text);
                due(say + " '" + text + "'", x.way(), y.way());
            }
            case "shop" -> {
                String text = spoilt(shopText());
                typeText(say, text);
                due(say + " '" + text + "'", x.shop(), y.shop());
            }
            case "type" -> {
                int letter = below(30) == 0 ? about(200) : ' ';
                due(say, x.type(letter), y.type(letter));
            }
            case "sheet", "drop", "item", "copy", "sagged", "film" -> sheetCall(say, name);
            case "holds", "odds", "packing", "doubled", "leave", "rolls", "run", "hands", "torn" -> outlookCall(say, name);
            default -> bagCall(say, name);
        }
    }

    private void bagCall(String say, String name) {
        int a = about(4);
        int b = about(8);
        int thing = about(8);
        int bag = about(3);
        switch (name) {
            case "bag" -> due(say, x.bag(a), y.bag(a));
            case "thing" -> thingCall(say);
            case "pack" -> due(say, x.pack(thing, bag), y.pack(thing, bag));
            case "give" -> due(say, x.give(thing), y.give(thing));
            case "of" -> due(say, x.of(bag, b), y.of(bag, b));
            case "strength" -> due(say, x.strength(bag, a), y.strength(bag, a));
            case "force" -> due(say, x.force(bag, a, b), y.force(bag, a, b));
            case "told" -> due(say, x.told(thing, b), y.told(thing, b));
            case "set" -> {
                int v = below(8) == 0 ? about(1000) : below(60);
                due(say, x.set(bag, b % 2, v), y.set(bag, b % 2, v));
            }
            case "sort" -> {
                int step = about(20);
                due(say, x.sort(step), y.sort(step));
            }
            case "count" -> due(say, x.count(b), y.count(b));
            case "step" -> due(say, x.step(), y.step());
            case "undo" -> due(say, x.undo(), y.undo());
            case "again" -> due(say, x.again(), y.again());
            case "seed" -> {
                int v = random.nextInt();
                due(say, x.seed(v), y.seed(v));
            }
            case "image" -> due(say, x.image(), y.image());
            case "restore" -> due(say, x.restore(), y.restore());
            default -> throw new IllegalStateException(name);
        }
    }

    private void thingCall(String say) {
        int weight = 1 + about(30);
        int damp = about(6);
        int edges = about(6);
        int worth = below(3) == 0 ? below(4) : about(100);
        int round = about(2);
        due(say, x.thing(weight, damp, edges, worth, round), y.thing(weight, damp, edges, worth, round));
    }

    private void outlookCall(String say, String name) {
        int what = about(2);
        int thing = about(9) - 1;
        int bag = about(3);
        switch (name) {
            case "holds" -> {
                int jolt = about(8);
                due(say, x.holds(jolt), y.holds(jolt));
            }
            case "odds" -> due(say, x.odds(what), y.odds(what));
            case "packing" -> due(say, x.packing(thing), y.packing(thing));
            case "doubled" -> due(say, x.doubled(), y.doubled());
            case "leave" -> due(say, x.leave(what), y.leave(what));
            case "rolls" -> due(say, x.rolls(thing), y.rolls(thing));
            case "run" -> due(say, x.run(thing), y.run(thing));
            case "hands" -> {
                int other = about(3);
                due(say, x.hands(bag, other, what), y.hands(bag, other, what));
            }
            case "torn" -> {
                int dice = below(3);
                int set = dice == 0 ? about(256) : dice == 1 ? y.of(bag, 4) : y.of(bag, 4) & -y.of(bag, 4);
                due(say, x.torn(bag, set, what), y.torn(bag, set, what));
            }
            default -> throw new IllegalStateException(name);
        }
    }

    private void sheetCall(String say, String name) {
        int sheet = about(4);
        int lane = sheet >= 0 && sheet < 4 && y.sheets[sheet] != null && below(6) > 0
            ? PlainModel.laneOf(y.sheets[sheet]) : about(4);
        int i = below(3) == 0 ? about(24) : 0;
        switch (name) {
            case "sheet" -> {
                int n = below(4) == 0 ? about(25) : 24;
                int newLane = about(4);
                due(say, x.sheet(sheet, newLane, n), y.sheet(sheet, newLane, n));
            }
            case "drop" -> due(say, x.drop(sheet), y.drop(sheet));
            case "item" -> {
                long v = below(3) == 0 ? random.nextLong() : below(20);
                due(say, x.item(sheet, lane, i, v), y.item(sheet, lane, i, v));
            }
            case "copy" -> {
                int to = about(4);
                int j = about(24);
                int n = about(12);
                due(say, x.copy(sheet, i, to, j, n), y.copy(sheet, i, to, j, n));
            }
            case "film" -> {
                int jolt = about(8);
                due(say, x.film(jolt, sheet, lane, i), y.film(jolt, sheet, lane, i));
            }
            default -> saggedCall(say, sheet, lane, i);
        }
    }

    /** Mostly with sags that a wet of 0 .. 99 would make, which else would hardly ever be met. */
    private void saggedCall(String say, int sheet, int lane, int i) {
        int bag = about(3);
        int n = 1 + about(8);
        int what = about(2);
        if (y.isBag(bag) && n >= 1 && below(4) > 0) {
            PlainModel.State s = y.now.twin();
            s.bags.get(bag)[1] = below(100);
            for (int k = 0; k < n && s.step < y.way.length(); k++) {
                y.walk(s, 0, false);
                long sag = (s.bags.get(bag)[1] + s.bags.get(bag)[2]) / 10;
                due(say + " item", x.item(sheet, lane, i + k, sag), y.item(sheet, lane, i + k, sag));
            }
        }
        due(say, x.sagged(bag, sheet, lane, i, n, what), y.sagged(bag, sheet, lane, i, n, what));
    }
}
