/** Promises 31 to 36: sheets. */
public final class SheetsTest {
    private static final int BAD = TornBag.BAD, NONE = TornBag.NONE;
    private static final int NULL = TornBag.NULL, CAST = TornBag.CAST, INDEX = TornBag.INDEX, SIZE = TornBag.SIZE;
    private static final int LOW = Integer.MIN_VALUE, HIGH = Integer.MAX_VALUE;

    public static void main(String[] args) {
        promise31();
        promise31Bench();
        promise31Refused();
        promise32();
        promise32Refused();
        promise33();
        promise34();
        promise35();
        promise36();
        promise36Refused();
        Check.end("SheetsTest");
    }

    private static void told(TornBag x, int sheet, int lane, int i, long... values) {
        for (int k = 0; k < values.length; k++) {
            Check.due("item " + (i + k), x.item(sheet, lane, i + k, values[k]), 1);
        }
    }

    /** An item of 0 to 9, seen by the sag of an empty bag, which stays as wet as it is. */
    private static int seen(TornBag x, int emptyBag, int sheet, int lane, int i) {
        int least = x.sagged(emptyBag, sheet, lane, i, 1, 1);
        return least < 0 ? least : least / 10;
    }

    private static void row(String say, TornBag x, int emptyBag, int sheet, int lane, int... want) {
        for (int i = 0; i < want.length; i++) {
            Check.due(say + " item " + i, seen(x, emptyBag, sheet, lane, i), want[i]);
        }
    }

    private static void sags(String say, TornBag x, int i, int n, int wets, int least) {
        Check.due("31 wets: " + say, x.sagged(0, 1, 0, i, n, 0), wets);
        Check.due("31 least: " + say, x.sagged(0, 1, 0, i, n, 1), least);
    }

    private static void promise31() {
        TornBag x = Check.walk("........", "C,P;1w3e1@0,30w5@1");
        x.sheet(1, 0, 12);
        told(x, 1, 0, 2, 5, 5);
        sags("one", x, 2, 1, 10, 45);
        sags("two", x, 2, 2, 5, 45);
        x.set(0, 1, 20);
        sags("with wear", x, 2, 2, 5, 25);
        x.set(0, 0, 999);
        sags("whatever its wet is now", x, 2, 2, 5, 25);
        x.set(0, 1, 999);
        told(x, 1, 0, 0, 100, 100);
        sags("wear is 999 at most", x, 0, 2, 5, 0);
        x.set(0, 1, 0);
        told(x, 1, 0, 0, 0, 1, 1, 2, 2, 3, 3, 4);
        sags("eight", x, 0, 8, 5, 0);
        told(x, 1, 0, 0, 0, 1, 1, 2, 2, 3, 3, 5);
        sags("not the last", x, 0, 8, 0, NONE);
        told(x, 1, 0, 0, 14);
        sags("too wet", x, 0, 1, 0, NONE);
        told(x, 1, 0, 0, 10);
        sags("at the most", x, 0, 1, 5, 95);
        x.set(1, 1, 900);
        told(x, 1, 0, 0, 90, 90);
        Check.due("31 as if nothing gave", x.sagged(1, 1, 0, 0, 1, 0), 4);
        told(x, 1, 0, 0, 95, 96);
        Check.due("31 gave, and still", x.sagged(1, 1, 0, 0, 2, 0), 6);
    }

    private static void promise31Bench() {
        TornBag x = Check.walk("s..", "C;1w3e5@0");
        x.sheet(1, 0, 3);
        told(x, 1, 0, 0, 3, 4);
        sags("bench: 5 more, then 9", x, 0, 2, 9, 26);
        x.step();
        sags("from here: 9 and 9 more, and 2 of wear", x, 0, 2, 9, 20);
    }

    private static void promise31Refused() {
        TornBag x = Check.walk("....", "C,T;1@0");
        x.sheet(1, 2, 6);
        x.sheet(2, 3, 24);
        int[][] bad = {{2, 1, 2, 0, 1, 0}, {-1, 1, 2, 0, 1, 0}, {0, 4, 2, 0, 1, 0}, {0, -1, 2, 0, 1, 0},
            {0, 1, 4, 0, 1, 0}, {0, 1, -1, 0, 1, 0}, {0, 1, 2, 0, 0, 0}, {0, 1, 2, 0, 5, 0}, {0, 1, 2, 0, 9, 0},
            {0, 1, 2, 0, LOW, 0}, {0, 1, 2, 0, 1, 2}, {0, 1, 2, 0, 1, -1}, {0, 0, 2, -1, 5, 0}};
        for (int[] b : bad) Check.due("31 bad", x.sagged(b[0], b[1], b[2], b[3], b[4], b[5]), BAD);
        Check.due("31 null", x.sagged(0, 0, 2, 99, 1, 0), NULL);
        Check.due("31 cast", x.sagged(0, 1, 1, 99, 1, 0), CAST);
        Check.due("31 index", x.sagged(0, 1, 2, 3, 4, 0), INDEX);
        Check.due("31 index below", x.sagged(0, 1, 2, -1, 1, 0), INDEX);
        Check.due("31 index high", x.sagged(0, 1, 2, HIGH, 1, 0), INDEX);
        Check.due("31 the last", x.sagged(0, 1, 2, 2, 4, 0), 6);
        x.step();
        Check.due("31 above steps left", x.sagged(0, 1, 2, 0, 4, 0), BAD);
        x.item(2, 3, 0, 1L << 32);
        Check.due("31 longs as they are", x.sagged(1, 2, 3, 0, 1, 0), 0);
        x = Check.walk("........", "C,T;1@0");
        Check.way(x, ".........");
        x.sheet(1, 2, 12);
        Check.due("31 eight at most", x.sagged(0, 1, 2, 0, 9, 0), BAD);
    }

    private static void promise32() {
        TornBag x = Check.walk("b..d", "C,T,C;30@0,1e1@1,1e2@1");
        x.set(0, 1, 55);
        x.set(1, 1, 15);
        x.sheet(3, 1, 6);
        told(x, 3, 1, 0, 9, 9, 9, 9, 9, 9);
        Check.due("32 steps", x.film(5, 3, 1, 1), 4);
        row("32 jolt 5", x, 2, 3, 1, 9, 1, 2, 0, 0, 9);
        Check.due("32 steps", x.film(0, 3, 1, 2), 4);
        row("32 jolt 0", x, 2, 3, 1, 9, 1, 0, 2, 0, 0);
        Check.due("32 nothing is changed", x.count(3) + x.count(4), 0);
        Check.due("32 nothing fell", x.of(1, 4), 6);
        x.seed(4);
        x.step();
        Check.due("32 from here", x.film(0, 3, 1, 0), 3);
        row("32 from here", x, 2, 3, 1, 2, 0, 0, 2, 0, 0);
        for (int s = 1; s < 4; s++) x.step();
        Check.due("32 home", x.film(0, 3, 1, 6), 0);
        x = Check.walk("...", "T,C;1e2@0,1e5@0,20@0");
        x.set(0, 1, 10);
        x.sheet(0, 0, 3);
        Check.due("32 corner, then bottom", x.film(0, 0, 0, 0), 3);
        row("32 corner, then bottom", x, 1, 0, 0, 1, 0, 6);
    }

    private static void promise32Refused() {
        TornBag x = Check.walk("...", "C;1@0");
        x.sheet(1, 2, 5);
        Check.due("32 jolt", x.film(8, 1, 2, 0), BAD);
        Check.due("32 jolt below", x.film(-1, 1, 2, 0), BAD);
        Check.due("32 sheet", x.film(0, 4, 2, 0), BAD);
        Check.due("32 sheet below", x.film(0, -1, 2, 0), BAD);
        Check.due("32 lane", x.film(0, 1, 4, 0), BAD);
        Check.due("32 lane below", x.film(0, 1, -1, 0), BAD);
        Check.due("32 null", x.film(0, 0, 2, 9), NULL);
        Check.due("32 cast", x.film(0, 1, 3, 9), CAST);
        Check.due("32 index", x.film(0, 1, 2, 3), INDEX);
        Check.due("32 index below", x.film(0, 1, 2, -1), INDEX);
        Check.due("32 index high", x.film(0, 1, 2, HIGH), INDEX);
        Check.due("32 just", x.film(0, 1, 2, 2), 3);
    }

    private static void promise33() {
        TornBag x = Check.walk("..", "C,C;1@0");
        for (int lane = 0; lane < 4; lane++) Check.due("33 lane", x.sheet(lane, lane, 24 - lane), 24 - lane);
        Check.due("33 least", x.sheet(0, 0, 0), 0);
        Check.due("33 an empty one is there", x.item(0, 0, 0, 1), INDEX);
        Check.due("33 sheet", x.sheet(4, 0, 1), BAD);
        Check.due("33 sheet below", x.sheet(-1, 0, 1), BAD);
        Check.due("33 lane", x.sheet(0, 4, 1), BAD);
        Check.due("33 lane below", x.sheet(0, -1, -1), BAD);
        Check.due("33 more than 24", x.sheet(0, 0, 25), BAD);
        Check.due("33 high", x.sheet(0, 0, HIGH), BAD);
        Check.due("33 size", x.sheet(0, 0, -1), SIZE);
        Check.due("33 size low", x.sheet(3, 3, LOW), SIZE);
        Check.due("33 stays", x.drop(3), 21);
        told(x, 1, 1, 0, 5, 6);
        Check.due("33 anew", x.sheet(1, 2, 3), 3);
        row("33 anew", x, 1, 1, 2, 0, 0, 0);
        Check.due("33 of the new lane", x.item(1, 1, 0, 1), CAST);
    }

    private static void promise34() {
        TornBag x = new TornBag();
        Check.due("34 sheet", x.drop(4), BAD);
        Check.due("34 below", x.drop(-1), BAD);
        Check.due("34 null", x.drop(3), NULL);
        x.sheet(3, 1, 17);
        x.sheet(2, 1, 0);
        Check.due("34 items", x.drop(3), 17);
        Check.due("34 then nothing", x.drop(3), NULL);
        Check.due("34 no item", x.item(3, 1, 0, 1), NULL);
        Check.due("34 none", x.drop(2), 0);
    }

    private static void promise35() {
        TornBag x = Check.walk("..", "C,C;1@0");
        for (int lane = 0; lane < 4; lane++) x.sheet(lane, lane, 3);
        Check.due("35 sheet", x.item(4, 0, 0, 1), BAD);
        Check.due("35 sheet below", x.item(-1, 0, 0, 1), BAD);
        Check.due("35 lane", x.item(0, 4, 0, 1), BAD);
        Check.due("35 lane below", x.item(0, -1, 0, 1), BAD);
        Check.due("35 cast ahead of index", x.item(0, 1, 3, 1), CAST);
        Check.due("35 index", x.item(0, 0, 3, 1), INDEX);
        Check.due("35 index below", x.item(0, 0, -1, 1), INDEX);
        int[] bits = {8, 16, 32};
        for (int lane = 0; lane < 3; lane++) {
            Check.due("35 item", x.item(lane, lane, 1, (1L << bits[lane]) + 7), 1);
            Check.due("35 lowest bits", seen(x, 1, lane, lane, 1), 7);
            Check.due("35 beside it", seen(x, 1, lane, lane, 0) + seen(x, 1, lane, lane, 2), 0);
            Check.due("35 item below 0", x.item(lane, lane, 1, 7 - (1L << bits[lane])), 1);
            Check.due("35 lowest bits below 0", seen(x, 1, lane, lane, 1), 7);
        }
        Check.due("35 long", x.item(3, 3, 2, (1L << 32) + 7), 1);
        Check.due("35 all bits", seen(x, 1, 3, 3, 2), NONE);
        Check.due("35 long", x.item(3, 3, 2, 8), 1);
        Check.due("35 a small one", seen(x, 1, 3, 3, 2), 8);
        Check.due("35 the least", x.item(3, 3, 2, Long.MIN_VALUE), 1);
        x.drop(0);
        Check.due("35 null ahead of cast", x.item(0, 1, 9, 1), NULL);
    }

    private static void promise36() {
        TornBag x = Check.walk("..", "C,C;1@0");
        x.sheet(0, 2, 6);
        x.sheet(1, 2, 4);
        told(x, 0, 2, 0, 1, 2, 3, 4, 5, 6);
        Check.due("36 copy", x.copy(0, 2, 1, 1, 3), 3);
        row("36 to another", x, 1, 1, 2, 0, 3, 4, 5);
        row("36 from it", x, 1, 0, 2, 1, 2, 3, 4, 5, 6);
        Check.due("36 on", x.copy(0, 0, 0, 1, 5), 5);
        row("36 as if taken ahead, on", x, 1, 0, 2, 1, 1, 2, 3, 4, 5);
        Check.due("36 back", x.copy(0, 2, 0, 0, 4), 4);
        row("36 as if taken ahead, back", x, 1, 0, 2, 2, 3, 4, 5, 4, 5);
        Check.due("36 none", x.copy(0, 6, 1, 4, 0), 0);
        for (int lane = 0; lane < 4; lane++) {
            x.sheet(2, lane, 2);
            x.sheet(3, lane, 2);
            x.item(2, lane, 0, 8);
            Check.due("36 lane " + lane, x.copy(2, 0, 3, 1, 1), 1);
            row("36 lane " + lane, x, 1, 3, lane, 0, 8);
        }
    }

    private static void promise36Refused() {
        TornBag x = new TornBag();
        x.sheet(0, 2, 6);
        x.sheet(1, 2, 4);
        x.sheet(2, 1, 4);
        Check.due("36 from", x.copy(4, 0, 1, 0, 1), BAD);
        Check.due("36 from below", x.copy(-1, 0, 1, 0, 1), BAD);
        Check.due("36 to", x.copy(3, 0, 4, 0, 1), BAD);
        Check.due("36 to below", x.copy(0, 0, -1, 0, 1), BAD);
        Check.due("36 null from", x.copy(3, 9, 2, 0, 1), NULL);
        Check.due("36 null to", x.copy(2, 9, 3, 0, 1), NULL);
        Check.due("36 cast ahead of index", x.copy(0, 9, 2, 0, 1), CAST);
        int[][] wrong = {{-1, 0, 1}, {0, -1, 1}, {0, 0, -1}, {6, 0, 1}, {3, 0, 4}, {0, 1, 4}, {0, 4, 1}, {7, 0, 0},
            {0, 5, 0}, {HIGH, 0, 1}, {0, HIGH, 1}, {1, 1, HIGH}, {0, 0, LOW}, {LOW, 0, 1}};
        for (int[] w : wrong) {
            Check.due("36 index " + w[0] + " " + w[1] + " " + w[2], x.copy(0, w[0], 1, w[1], w[2]), INDEX);
        }
        Check.due("36 just", x.copy(0, 2, 1, 0, 4), 4);
    }
}
