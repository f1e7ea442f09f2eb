/** Promises 16 to 19 and 29, 30: steps, steps undone, images. */
public final class StepsTest {
    private static final int BAD = TornBag.BAD, NOT = TornBag.NOT, FULL = TornBag.FULL, NONE = TornBag.NONE;

    public static void main(String[] args) {
        promise16Wet();
        promise16Places();
        promise16Jolts();
        promise16Draw();
        promise16Bench();
        promise17();
        promise17Lost();
        promise18();
        promise19();
        promise29And30();
        Check.end("StepsTest");
    }

    private static void promise16Wet() {
        TornBag x = new TornBag();
        Check.due("16 no way", x.step(), NOT);
        x = Check.walk("...", "C,C,C;1w5e5@0,1w2e1@0,1w1@2");
        x.set(0, 0, 990);
        Check.due("16 nothing falls", x.step(), 0);
        Check.due("16 wet", x.of(0, 1), 997);
        Check.due("16 wear", x.of(0, 2), 7);
        Check.due("16 an empty bag stays", x.of(1, 1) + x.of(1, 2), 0);
        Check.due("16 third bag", x.of(2, 1) * 10 + x.of(2, 2), 11);
        x.set(0, 1, 0);
        x.set(2, 1, 998);
        x.give(2);
        x.step();
        Check.due("16 wet is 999 at most", x.of(0, 1), 999);
        Check.due("16 empty now", x.of(2, 2), 998);
        Check.due("16 the step", x.count(3), 2);
        x.step();
        Check.due("16 home", x.step(), NOT);
        Check.due("16 stays at home", x.count(3), 3);
        x = Check.walk("..", "C;1@0");
        x.set(0, 1, 999);
        Check.due("16 worn out", x.step(), 1);
        Check.due("16 wear is 999 at most", x.of(0, 2), 999);
    }

    private static void promise16Places() {
        TornBag x = Check.walk("....", "T;1e2@0,1e5@0,1e1@0");
        x.set(0, 1, 10);
        Check.due("16 corner: the least", x.step(), 1);
        Check.due("16 on the ground", x.told(0, 5), 10);
        Check.due("16 the others stay", x.of(0, 4), 6);
        Check.due("16 the corner is gone but once", x.step(), 0);
        Check.due("16 wear of the rest", x.of(0, 2), 26);
        Check.due("16 places", x.of(0, 3), 8);
        x = Check.walk("...", "P;30@0,2@0");
        x.set(0, 1, 50);
        Check.due("16 first handle", x.step(), 0);
        Check.due("16 first handle is gone", x.of(0, 3), 2);
        Check.due("16 last handle", x.step(), 3);
        Check.due("16 bottom is whole", x.of(0, 3), 6);
        Check.due("16 nothing more", x.step(), 0);
        Check.due("16 no wear without things", x.of(0, 2), 52);
        x = Check.walk("..", "T;30e5@0");
        x.set(0, 1, 15);
        Check.due("16 the bottom ahead of handle and corner", x.step(), 1);
        Check.due("16 only one place gives", x.of(0, 3), 1);
        x = Check.walk("..", "C,P;30@0,30@1,20@0");
        x.set(0, 1, 49);
        Check.due("16 force as much as strength", x.step(), 0);
        Check.due("16 force above strength", x.step(), 5);
        Check.due("16 of one bag", x.of(1, 4), 2);
    }

    private static int fallsAt(String way, int wear) {
        TornBag x = Check.walk(way, "C;30@0");
        x.set(0, 1, wear);
        return x.step();
    }

    private static void promise16Jolts() {
        Check.due("16 flat holds", fallsAt(".", 69), 0);
        Check.due("16 flat", fallsAt(".", 70), 1);
        Check.due("16 up holds", fallsAt("u", 63), 0);
        Check.due("16 up", fallsAt("u", 64), 1);
        Check.due("16 down holds", fallsAt("d", 60), 0);
        Check.due("16 down", fallsAt("d", 61), 1);
        Check.due("16 bench holds", fallsAt("s", 300), 0);
    }

    /** 1 becomes 1103527590: by 65536 that is 16838, left over by 8: 6. */
    private static void promise16Draw() {
        Check.due("16 jolt 6 holds", fallsAt("b", 51), 0);
        Check.due("16 jolt 6", fallsAt("b", 52), 1);
        TornBag x = Check.walk("b.ub", "C,C;30@0,30@1");
        x.step();
        Check.due("16 drawn once for all bags", x.seed(1103527590), 1103527590);
        x.step();
        x.step();
        Check.due("16 not drawn for others", x.seed(1103527590), 1103527590);
        x.step();
        Check.due("16 second", x.seed(0), (int) ((1103527590L * 1103515245L + 12345L) & 0x7fffffffL));
        x = new TornBag();
        Check.way(x, "b");
        x.step();
        Check.due("16 drawn without bags", x.seed(0), 1103527590);
    }

    private static void promise16Bench() {
        TornBag x = Check.walk("ss.", "P;30w3e5@0");
        x.set(0, 1, 500);
        Check.due("16 bench", x.step(), 0);
        Check.due("16 bench: wear by 2", x.of(0, 2), 502);
        Check.due("16 bench: wet as ever", x.of(0, 1), 3);
        x.step();
        Check.due("16 behind the bench", x.step(), 1);
    }

    private static void promise17() {
        TornBag x = Check.walk("b.b", "P,T;30w1@0,3@1,2");
        Check.due("17 none", x.undo(), NONE);
        x.set(0, 0, 37);
        x.step();
        Check.due("17 fell", x.of(0, 4), 0);
        x.pack(0, 1);
        x.give(1);
        x.set(1, 0, 77);
        x.seed(4);
        x.again();
        Check.due("17 undone", x.undo(), 0);
        Check.due("17 in the bag", x.told(0, 5) * 100 + x.told(1, 5) * 10 + x.told(2, 5), 13);
        Check.due("17 wet", x.of(0, 1), 37);
        Check.due("17 wear", x.of(0, 2), 0);
        Check.due("17 other wet", x.of(1, 1), 0);
        Check.due("17 places", x.of(0, 3), 0);
        Check.due("17 step", x.count(3), 0);
        Check.due("17 draw", x.seed(1), 1);
        Check.due("17 no more", x.undo(), NONE);
        x.step();
        x.step();
        x.again();
        Check.due("17 the latest", x.undo(), 1);
        Check.due("17 step ahead of it", x.count(3), 1);
        Check.due("17 the one before", x.undo(), 0);
        Check.due("17 first step", x.count(3), 0);
    }

    private static void promise17Lost() {
        TornBag x = Check.walk("..........", "C;1@0");
        for (int s = 0; s < 10; s++) x.step();
        for (int more = 7; more >= 0; more--) Check.due("17 eight", x.undo(), more);
        Check.due("17 older ones are lost", x.undo(), NONE);
        Check.due("17 two steps stay", x.count(3), 2);
        Check.due("17 wear of two steps", x.of(0, 2), 2);
        x.step();
        Check.due("17 bad bag", x.bag(9), BAD);
        Check.due("17 bad thing", x.thing(0, 0, 0, 0, 0), BAD);
        Check.due("17 refused leaves it", x.count(5), 1);
        Check.due("17 bag", x.bag(0), 1);
        Check.due("17 a new bag", x.undo(), NONE);
        x.step();
        Check.due("17 thing", x.thing(1, 0, 0, 0, 0), 1);
        Check.due("17 a new thing", x.undo(), NONE);
        x.step();
        x.bag(0);
        x.step();
        Check.due("17 full", x.bag(0), FULL);
        Check.due("17 full leaves it", x.count(5), 1);
        Check.shop(x, "P;1");
        Check.due("17 a shop", x.undo(), NONE);
        x.step();
        Check.way(x, "...");
        Check.due("17 a way", x.undo(), NONE);
    }

    private static void promise18() {
        TornBag x = Check.walk("..", "P,T;30w2@0,1w1e1@1");
        x.set(0, 0, 40);
        x.step();
        x.step();
        Check.due("18 again", x.again(), 2);
        Check.due("18 the step", x.count(3), 0);
        Check.due("18 places", x.of(0, 3), 1);
        Check.due("18 wet", x.of(1, 1), 2);
        Check.due("18 wear", x.of(1, 2), 4);
        Check.due("18 on the ground", x.told(0, 5), 10);
        Check.due("18 undone stay", x.count(5), 2);
        Check.due("18 at once", x.again(), 0);
        Check.due("18 steps go on", x.step(), 0);
    }

    private static void promise19() {
        TornBag x = new TornBag();
        Check.due("19 first", x.seed(0), 1);
        Check.due("19 then", x.seed(Integer.MAX_VALUE), 0);
        Check.due("19 below", x.seed(-1), BAD);
        Check.due("19 low", x.seed(Integer.MIN_VALUE), BAD);
        Check.due("19 stays", x.seed(7), Integer.MAX_VALUE);
    }

    private static void promise29And30() {
        TornBag x = Check.walk("b.u", "P,T;30w1@0,3@1,2");
        Check.due("30 none", x.restore(), NONE);
        x.sheet(0, 1, 5);
        x.set(0, 0, 30);
        x.step();
        Check.due("29 image", x.image(), 1);
        int draw = x.seed(9);
        Check.way(x, "bb");
        Check.shop(x, "D;1");
        x.sheet(0, 2, 7);
        Check.type(x, "u");
        Check.due("30 restore", x.restore(), 1);
        Check.due("30 sheets are not in it", x.drop(0), 7);
        Check.due("30 the tape is not in it", x.type('d'), 2);
        int[] counts = {2, 3, 3, 1, 1, 1, 0};
        for (int what = 0; what <= 6; what++) Check.due("30 count(" + what + ")", x.count(what), counts[what]);
        Check.due("30 draw", x.seed(3), draw);
        Check.due("30 kinds", x.of(0, 0) * 10 + x.of(1, 0), 2);
        Check.due("30 wet", x.of(0, 1), 31);
        Check.due("30 places", x.of(0, 3), 1);
        Check.due("30 way", x.sort(2), 1);
        Check.due("30 where", x.told(0, 5), 10);
        Check.due("30 undone is in it", x.undo(), 0);
        Check.due("30 as ahead of it", x.told(0, 5), 0);
        Check.due("30 again", x.restore(), 1);
        Check.due("30 the step", x.count(3), 1);
        x.step();
        x.image();
        x.again();
        Check.due("30 restore the later", x.restore(), 1);
        Check.due("30 later step", x.count(3), 2);
        Check.due("30 an image alone changes nothing", x.count(5), 2);
    }
}
