/** Promises 1 to 15: bags, things, the way. */
public final class BagsTest {
    private static final int BAD = TornBag.BAD, NOT = TornBag.NOT, FULL = TornBag.FULL, NONE = TornBag.NONE;
    private static final int LOW = Integer.MIN_VALUE, HIGH = Integer.MAX_VALUE;

    public static void main(String[] args) {
        promise1();
        promise2();
        promise3();
        promise4();
        promise5();
        promise6();
        promise7();
        promise8();
        promise9();
        promise10();
        promise11();
        promise12();
        promise12Faults();
        promise13();
        promise13Faults();
        promise14();
        promise15();
        Check.end("BagsTest");
    }

    private static void promise1() {
        TornBag x = new TornBag();
        for (int what = 0; what <= 6; what++) Check.due("1 count(" + what + ")", x.count(what), 0);
        Check.due("1 of", x.of(0, 0), BAD);
        Check.due("1 told", x.told(0, 0), BAD);
        Check.due("1 sort", x.sort(0), BAD);
        Check.due("1 restore", x.restore(), NONE);
        Check.due("1 seed", x.seed(5), 1);
        Check.due("1 type", x.type('.'), 1);
        for (int s = 0; s < 4; s++) Check.due("1 drop", x.drop(s), TornBag.NULL);
    }

    private static void promise2() {
        TornBag x = new TornBag();
        Check.due("2 below", x.bag(-1), BAD);
        Check.due("2 above", x.bag(4), BAD);
        Check.due("2 cloth", x.bag(3), 0);
        Check.due("2 paper", x.bag(0), 1);
        Check.due("2 low", x.bag(LOW), BAD);
        Check.due("2 double", x.bag(1), 2);
        Check.due("2 full", x.bag(2), FULL);
        Check.due("2 bad ahead of full", x.bag(4), BAD);
        Check.due("2 how many", x.count(0), 3);
        Check.due("2 kind 0", x.of(0, 0), 3);
        Check.due("2 kind 1", x.of(1, 0), 0);
        for (int what = 1; what <= 6; what++) Check.due("2 of(2, " + what + ")", x.of(2, what), 0);
    }

    private static void promise3() {
        TornBag x = new TornBag();
        int[][] wrong = {{0, 0, 0, 0, 0}, {31, 0, 0, 0, 0}, {1, -1, 0, 0, 0}, {1, 6, 0, 0, 0}, {1, 0, -1, 0, 0},
            {1, 0, 6, 0, 0}, {1, 0, 0, -1, 0}, {1, 0, 0, 100, 0}, {1, 0, 0, 0, -1}, {1, 0, 0, 0, 2},
            {LOW, 0, 0, 0, 0}, {1, HIGH, 0, 0, 0}, {1, 0, LOW, 0, 0}, {1, 0, 0, HIGH, 0}, {1, 0, 0, 0, HIGH}};
        for (int[] w : wrong) Check.due("3 bad", x.thing(w[0], w[1], w[2], w[3], w[4]), BAD);
        Check.due("3 none yet", x.count(1), 0);
        Check.due("3 least", x.thing(1, 0, 0, 0, 0), 0);
        Check.due("3 most", x.thing(30, 5, 5, 99, 1), 1);
        Check.due("3 nowhere", x.told(1, 5), 3);
        for (int t = 2; t < 8; t++) Check.due("3 thing " + t, x.thing(t, 1, 1, 1, 1), t);
        Check.due("3 full", x.thing(1, 0, 0, 0, 0), FULL);
        Check.due("3 bad ahead of full", x.thing(0, 0, 0, 0, 0), BAD);
        Check.due("3 how many", x.count(1), 8);
    }

    private static void promise4() {
        TornBag x = Check.walk("...", "P,C;30,5,6@1");
        Check.due("4 no such thing", x.pack(3, 0), BAD);
        Check.due("4 below", x.pack(-1, 0), BAD);
        Check.due("4 no such bag", x.pack(0, 2), BAD);
        Check.due("4 bag below", x.pack(0, -1), BAD);
        Check.due("4 from nowhere", x.pack(0, 0), 3);
        Check.due("4 from the same", x.pack(0, 0), 0);
        Check.due("4 from the other", x.pack(2, 0), 1);
        Check.due("4 back", x.pack(2, 1), 0);
        Check.due("4 is there", x.told(2, 5), 1);
        x.set(0, 1, 50);
        Check.due("4 one handle", x.step(), 0);
        Check.due("4 one handle is gone", x.of(0, 3), 2);
        Check.due("4 into a bag with one handle", x.pack(1, 0), 3);
        Check.due("4 both handles", x.step(), 3);
        Check.due("4 both are gone", x.of(0, 3), 6);
        Check.due("4 into a bag without handles", x.pack(0, 0), NOT);
        Check.due("4 bad ahead of not", x.pack(8, 0), BAD);
        Check.due("4 it stays on the ground", x.told(0, 5), 11);
        Check.due("4 from the ground", x.pack(0, 1), 11);
        promise4Bottom();
        promise4Corner();
    }

    private static void promise4Bottom() {
        TornBag x = Check.walk("..", "P;30@0,1");
        x.set(0, 0, 40);
        Check.due("4 bottom", x.step(), 1);
        Check.due("4 bottom is gone", x.of(0, 3), 1);
        Check.due("4 into a bag without bottom", x.pack(1, 0), NOT);
        Check.due("4 still nowhere", x.told(1, 5), 3);
    }

    private static void promise4Corner() {
        TornBag x = Check.walk("..", "T;2e5@0,1");
        x.set(0, 1, 12);
        Check.due("4 corner", x.step(), 1);
        Check.due("4 corner is gone", x.of(0, 3), 8);
        Check.due("4 into a bag without corner", x.pack(1, 0), 3);
    }

    private static void promise5() {
        TornBag x = Check.walk(".u", "P,T;30@0,5@1,6");
        Check.due("5 bad", x.give(3), BAD);
        Check.due("5 below", x.give(-1), BAD);
        Check.due("5 of a bag", x.give(1), 1);
        Check.due("5 is nowhere", x.told(1, 5), 3);
        Check.due("5 of nowhere", x.give(2), 3);
        x.set(0, 0, 40);
        x.again();
        Check.due("5 falls", x.step(), 1);
        Check.due("5 of the ground", x.give(0), 10);
        Check.due("5 none on the ground", x.count(4), 0);
    }

    private static void promise6() {
        TornBag x = Check.walk(".", "T,C;7w2e1@1,11@1,3");
        x.set(1, 0, 123);
        x.set(1, 1, 456);
        int[] want = {3, 123, 456, 0, 3, 18, 57};
        for (int what = 0; what <= 6; what++) Check.due("6 of(1, " + what + ")", x.of(1, what), want[what]);
        int[] empty = {2, 0, 0, 0, 0, 0, 0};
        for (int what = 0; what <= 6; what++) Check.due("6 of(0, " + what + ")", x.of(0, what), empty[what]);
        Check.due("6 what", x.of(1, 7), BAD);
        Check.due("6 what below", x.of(1, -1), BAD);
        Check.due("6 bag", x.of(2, 0), BAD);
        Check.due("6 bag below", x.of(-1, 0), BAD);
        x.set(1, 0, 999);
        x.set(1, 1, 999);
        Check.due("6 most sag", x.of(1, 6), 199);
    }

    private static void strengths(int kind, int wet, int wear, int[] want) {
        TornBag x = new TornBag();
        x.bag(kind);
        x.set(0, 0, wet);
        x.set(0, 1, wear);
        for (int place = 0; place < 4; place++) {
            Check.due("7 kind " + kind + " wet " + wet + " wear " + wear + " place " + place,
                x.strength(0, place), want[place]);
        }
    }

    private static void promise7() {
        strengths(0, 0, 0, new int[] {90, 60, 60, 90});
        strengths(0, 10, 5, new int[] {65, 45, 45, 75});
        strengths(0, 40, 15, new int[] {0, 5, 5, 35});
        strengths(0, 999, 999, new int[] {0, 0, 0, 0});
        strengths(1, 0, 0, new int[] {130, 100, 100, 130});
        strengths(1, 60, 5, new int[] {5, 35, 35, 65});
        strengths(1, 100, 0, new int[] {0, 0, 0, 30});
        strengths(2, 50, 0, new int[] {70, 70, 70, 50});
        strengths(2, 0, 26, new int[] {18, 18, 18, 0});
        strengths(3, 50, 0, new int[] {100, 100, 100, 80});
        strengths(3, 0, 85, new int[] {15, 15, 15, 0});
        strengths(3, 0, 40, new int[] {60, 60, 60, 40});
        TornBag x = Check.walk("..", "P;30@0");
        x.set(0, 0, 40);
        x.step();
        Check.due("7 a place that is gone", x.strength(0, 0), 9);
        Check.due("7 bag", x.strength(1, 0), BAD);
        Check.due("7 place", x.strength(0, 4), BAD);
        Check.due("7 place below", x.strength(0, -1), BAD);
    }

    private static void promise8() {
        TornBag x = Check.walk("..", "P;20e1@0,7e1@0,9");
        Check.due("8 bottom 0", x.force(0, 0, 0), 27);
        Check.due("8 bottom 7", x.force(0, 0, 7), 45);
        Check.due("8 handle 0", x.force(0, 1, 0), 13);
        Check.due("8 handle 5", x.force(0, 2, 5), 20);
        Check.due("8 corner", x.force(0, 3, 0), 6);
        Check.due("8 corner has no jolt", x.force(0, 3, 7), 6);
        Check.due("8 jolt", x.force(0, 0, 8), BAD);
        Check.due("8 jolt below", x.force(0, 0, -1), BAD);
        Check.due("8 place", x.force(0, 4, 0), BAD);
        Check.due("8 place below", x.force(0, -1, 0), BAD);
        Check.due("8 bag", x.force(1, 0, 0), BAD);
        x.set(0, 1, 48);
        Check.due("8 handle", x.step(), 0);
        Check.due("8 one handle is gone", x.of(0, 3), 2);
        Check.due("8 the handle that is whole", x.force(0, 2, 5), 40);
        Check.due("8 the handle that is gone", x.force(0, 1, 5), 40);
        Check.due("8 both", x.step(), 3);
        Check.due("8 none is whole", x.force(0, 1, 7), 0);
    }

    private static void promise9() {
        TornBag x = Check.walk(".u", "P;30@0");
        Check.due("9 thing", x.thing(12, 3, 4, 98, 1), 1);
        int[] want = {12, 3, 4, 98, 1, 3};
        for (int what = 0; what <= 5; what++) Check.due("9 told(1, " + what + ")", x.told(1, what), want[what]);
        Check.due("9 what", x.told(1, 6), BAD);
        Check.due("9 what below", x.told(1, -1), BAD);
        Check.due("9 thing", x.told(2, 0), BAD);
        Check.due("9 thing below", x.told(-1, 0), BAD);
        Check.due("9 in a bag", x.told(0, 5), 0);
        Check.due("9 not round", x.told(0, 4), 0);
        x.step();
        x.set(0, 0, 40);
        x.step();
        Check.due("9 on the ground", x.told(0, 5), 11);
    }

    private static void promise10() {
        TornBag x = new TornBag();
        Check.due("10 no bag", x.set(0, 0, 0), BAD);
        x.bag(0);
        Check.due("10 wet", x.set(0, 0, 999), 0);
        Check.due("10 wet again", x.set(0, 0, 7), 999);
        Check.due("10 wear", x.set(0, 1, 8), 0);
        Check.due("10 too much", x.set(0, 0, 1000), BAD);
        Check.due("10 below", x.set(0, 1, -1), BAD);
        Check.due("10 what", x.set(0, 2, 1), BAD);
        Check.due("10 what below", x.set(0, -1, 1), BAD);
        Check.due("10 bag", x.set(1, 0, 1), BAD);
        Check.due("10 wet is", x.of(0, 1), 7);
        Check.due("10 wear is", x.of(0, 2), 8);
    }

    private static void promise11() {
        TornBag x = new TornBag();
        Check.due("11 below", x.type(31), BAD);
        Check.due("11 above", x.type(127), BAD);
        Check.due("11 low", x.type(LOW), BAD);
        for (int k = 1; k <= 100; k++) Check.due("11 letter " + k, x.type(k % 2 == 0 ? 32 : 126), k);
        Check.due("11 full", x.type(65), FULL);
        Check.due("11 bad ahead of full", x.type(127), BAD);
        Check.due("11 empty behind a fault", x.way(), -20);
        Check.due("11 first again", x.type(65), 1);
    }

    private static void promise12() {
        TornBag x = new TornBag();
        Check.due("12 all sorts", Check.way(x, ".udbs"), 5);
        for (int s = 0; s < 5; s++) Check.due("12 sort " + s, x.sort(s), s);
        x.step();
        x.step();
        Check.due("12 undone", x.count(5), 2);
        Check.due("12 fault", Check.way(x, "..x"), -22);
        Check.due("12 step stays", x.count(3), 2);
        Check.due("12 undone stays", x.count(5), 2);
        Check.due("12 way stays", x.count(2), 5);
        Check.due("12 another", Check.way(x, " b b "), 2);
        Check.due("12 step", x.count(3), 0);
        Check.due("12 nothing to be undone", x.undo(), NONE);
        Check.due("12 sort", x.sort(1), 3);
        Check.due("12 shorter", x.sort(2), BAD);
        Check.due("12 the tape is empty then", x.type('.'), 1);
    }

    private static void promise12Faults() {
        TornBag x = new TornBag();
        Check.due("12 empty", Check.way(x, ""), -20);
        Check.due("12 blanks", Check.way(x, "   "), -23);
        Check.due("12 behind blanks", Check.way(x, ".  U"), -23);
        Check.due("12 twenty", Check.way(x, "....................  "), 20);
        Check.due("12 one more", Check.way(x, "....................  ."), -42);
        Check.due("12 first", Check.way(x, "P"), -20);
        Check.due("12 bags and things stay", x.count(0) + x.count(1), 0);
        for (int k = 0; k < 99; k++) x.type(' ');
        Check.due("12 last letter", Check.way(x, "s"), 1);
    }

    private static void promise13() {
        TornBag x = new TornBag();
        Check.way(x, "..");
        x.bag(3);
        x.set(0, 0, 9);
        x.step();
        Check.due("13 shop", Check.shop(x, "P,D,T;30w5e4r@2, 1 ,2w1,3e2,4r,5@0,6 w 3 e 1 r @ 1,007"), 8);
        Check.due("13 bags", x.count(0), 3);
        Check.due("13 kinds", x.of(0, 0) + 10 * x.of(1, 0) + 100 * x.of(2, 0), 210);
        Check.due("13 new bag", x.of(0, 1), 0);
        Check.due("13 step stays", x.count(3), 1);
        Check.due("13 nothing to be undone", x.undo(), NONE);
        int[][] want = {{30, 5, 4, 30, 1, 2}, {1, 0, 0, 1, 0, 3}, {2, 1, 0, 2, 0, 3}, {3, 0, 2, 3, 0, 3},
            {4, 0, 0, 4, 1, 3}, {5, 0, 0, 5, 0, 0}, {6, 3, 1, 6, 1, 1}, {7, 0, 0, 7, 0, 3}};
        for (int t = 0; t < 8; t++) {
            for (int what = 0; what < 6; what++) {
                Check.due("13 told(" + t + ", " + what + ")", x.told(t, what), want[t][what]);
            }
        }
        Check.due("13 fault", Check.shop(x, "P;1,"), -24);
        Check.due("13 all stays", x.count(1), 8);
        Check.due("13 cloth", Check.shop(x, " C ; 1 "), 1);
        Check.due("13 in place of all", x.count(0) * 10 + x.count(1), 11);
        Check.due("13 kind", x.of(0, 0), 3);
        Check.due("13 nothing in it", x.of(0, 4), 0);
        Check.due("13 new thing is nowhere", x.told(x.thing(1, 1, 1, 1, 1), 5), 3);
        Check.due("13 the tape is empty then", x.type('.'), 1);
    }

    private static void promise13Faults() {
        String[] texts = {"", "  ", "p;1", "P", "P ", "PP;1", "P,;1", "P,P,P,P;1", ";1", "P;", "P; ", "P;x", "P;0",
            "P;31", "P; 31", "P;030", "P;0030x", "P;3 1", "P;1w", "P;1w6", "P;1w12", "P;1we", "P;1e6", "P;1e1w1",
            "P;1rr", "P;1re1", "P;1@", "P;1@1", "P,T;1@2", "P,T;1@1r", "P;1@00", "P;1;", "P;1,", "P;1,,1", "P;1 , 0",
            "P;1,1,1,1,1,1,1,1,1", "P;99999999999", "P;1,45,x", "P;1w-1", "P;-1", "P;1@a", "P;1w5e5r@0,30 x"};
        int[] places = {0, 2, 0, 1, 2, 1, 2, 5, 0, 2, 3, 2, 2,
            2, 3, -1, 6, 4, 4, 4, 5, 4, 4, 5,
            4, 4, 4, 4, 6, 7, 5, 3, 4, 4, 6,
            17, 2, 4, 4, 2, 4, 14};
        for (int k = 0; k < texts.length; k++) {
            int want = places[k] < 0 ? 1 : -20 - places[k];
            Check.due("13 '" + texts[k] + "'", Check.shop(new TornBag(), texts[k]), want);
        }
    }

    private static void promise14() {
        TornBag x = new TornBag();
        Check.due("14 none", x.sort(0), BAD);
        Check.way(x, "sbdu.");
        int[] want = {4, 3, 2, 1, 0};
        for (int s = 0; s < 5; s++) Check.due("14 sort " + s, x.sort(s), want[s]);
        Check.due("14 behind", x.sort(5), BAD);
        Check.due("14 below", x.sort(-1), BAD);
        Check.due("14 high", x.sort(HIGH), BAD);
    }

    private static void promise15() {
        TornBag x = Check.walk("b.bsb", "P,T;30@0,2@0,3");
        x.set(0, 0, 40);
        x.step();
        int[] want = {2, 3, 5, 1, 2, 1, 2};
        for (int what = 0; what <= 6; what++) Check.due("15 count(" + what + ")", x.count(what), want[what]);
        Check.due("15 what", x.count(7), BAD);
        Check.due("15 below", x.count(-1), BAD);
        for (int s = 1; s < 5; s++) x.step();
        Check.due("15 no bus at home", x.count(6), 0);
        Check.due("15 five undone", x.count(5), 5);
        x.again();
        for (int s = 0; s < 5; s++) x.step();
        Check.due("15 eight are known", x.count(5), 8);
        x.again();
        Check.due("15 all buses", x.count(6), 3);
    }
}
