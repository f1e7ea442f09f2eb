/** What the tests of the project share: counting answers, and typing texts. */
final class Check {
    private static int passed = 0;
    private static int failed = 0;

    private Check() {
    }

    static void due(String call, long got, long want) {
        if (got == want) {
            passed++;
            return;
        }
        failed++;
        System.out.println(call + " answered " + got + ", due is " + want);
    }

    static void holds(String what, boolean isSo) {
        due(what, isSo ? 1 : 0, 1);
    }

    static void type(TornBag x, String text) {
        for (int k = 0; k < text.length(); k++) x.type(text.charAt(k));
    }

    static int way(TornBag x, String text) {
        type(x, text);
        return x.way();
    }

    static int shop(TornBag x, String text) {
        type(x, text);
        return x.shop();
    }

    /** A new object with a way and a shop; both must be read. */
    static TornBag walk(String way, String shop) {
        TornBag x = new TornBag();
        holds("way " + way, way(x, way) > 0);
        holds("shop " + shop, shop(x, shop) > 0);
        return x;
    }

    static void end(String test) {
        System.out.println(test + ": " + passed + " passed, " + failed + " failed");
        if (failed != 0) System.exit(1);
    }
}
