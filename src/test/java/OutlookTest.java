/** Promises 20 to 28: what comes. */
public final class OutlookTest {
    private static final int BAD = TornBag.BAD, NOT = TornBag.NOT, FULL = TornBag.FULL, NONE = TornBag.NONE;

    public static void main(String[] args) {
        promise20();
        promise21();
        promise22();
        promise22Refused();
        promise23();
        promise24();
        promise25();
        promise26();
        promise26Refused();
        promise27();
        promise28();
        nothingIsChanged();
        Check.end("OutlookTest");
    }

    /** One cloth bag with a thing of weight 30: its strength is 100 less wear. */
    private static TornBag cloth(String way, int wear) {
        TornBag x = Check.walk(way, "C;30@0");
        x.set(0, 1, wear);
        return x;
    }

    private static void promise20() {
        TornBag x = cloth("b.d.u", 55);
        Check.due("20 holds", x.holds(4), NONE);
        Check.due("20 the bus", x.holds(5), 0);
        x.set(0, 1, 59);
        Check.due("20 down", x.holds(3), 2);
        Check.due("20 the bus first", x.holds(4), 0);
        Check.due("20 below", x.holds(-1), BAD);
        Check.due("20 above", x.holds(8), BAD);
        x.seed(2);
        x.set(0, 1, 0);
        x.step();
        x.set(0, 1, 60);
        Check.due("20 from here", x.holds(7), 2);
        x.again();
        Check.due("20 from the first", x.holds(7), 0);
        x = Check.walk("..", "C,P,C;1@0,30@1,1@2");
        x.set(1, 1, 50);
        Check.due("20 a handle gives, nothing falls", x.holds(0), 0);
        x.step();
        Check.due("20 the last handle", x.holds(0), 1);
        x = Check.walk("ss", "P;30@0");
        x.set(0, 0, 999);
        Check.due("20 bench", x.holds(7), NONE);
        Check.due("20 nothing there", new TornBag().holds(0), NONE);
    }

    private static void odds(String say, TornBag x, int upper, int lower) {
        Check.due("21 " + say + ", upper", x.odds(0), upper);
        Check.due("21 " + say + ", lower", x.odds(1), lower);
    }

    private static void promise21() {
        odds("two buses", cloth("b.b", 55), 25, 64);
        odds("in lowest terms", cloth("b.b", 51), 21, 32);
        odds("surely", cloth("bbbb", 0), 1, 1);
        odds("never", cloth("bb.", 80), 0, 1);
        odds("not by a step without bus", cloth("bd", 60), 0, 1);
        odds("no bus", cloth("...", 0), 1, 1);
        TornBag x = cloth("b", 51);
        odds("one", x, 7, 8);
        Check.shop(x, "C,C;30@0,30@1");
        x.set(0, 1, 51);
        x.set(1, 1, 56);
        odds("one jolt for all bags", x, 5, 8);
        x = cloth("bbbbb", 0);
        Check.due("21 full", x.odds(0), FULL);
        Check.due("21 bad ahead of full", x.odds(2), BAD);
        Check.due("21 below", x.odds(-1), BAD);
        x.step();
        odds("four are left", x, 1, 1);
        x = Check.walk("b", "P;30@0");
        x.set(0, 1, 40);
        odds("a handle that gives counts", x, 1, 2);
    }

    private static void promise22() {
        TornBag x = Check.walk(".....", "C,C;30@1,30");
        x.set(0, 1, 40);
        Check.due("22 holds", x.packing(-1), NONE);
        Check.due("22 first as a row, 0", x.packing(0), 0);
        Check.due("22 first as a row, 1", x.packing(1), 1);
        Check.due("22 it is but told", x.told(0, 5) * 10 + x.told(1, 5), 13);
        x = Check.walk(".b", "C;30");
        x.set(0, 1, 48);
        Check.due("22 by jolt 7", x.packing(-1), 1);
        x.set(0, 1, 47);
        Check.due("22 just not", x.packing(-1), NONE);
        x = Check.walk("...", "C,C,C;20,20,20,20,20,20");
        x.set(0, 1, 78);
        x.set(1, 1, 38);
        x.set(2, 1, 38);
        Check.due("22 farthest", x.packing(-1), 2);
        int[] want = {0, 1, 1, 1, 2, 2};
        for (int t = 0; t < 6; t++) Check.due("22 bag of " + t, x.packing(t), want[t]);
        x = Check.walk("...", "T,C;5@0,6@1");
        x.set(1, 1, 999);
        x.step();
        Check.due("22 torn", x.packing(-1), BAD);
        Check.due("22 torn, on the ground", x.packing(1), BAD);
    }

    private static void promise22Refused() {
        TornBag x = new TornBag();
        Check.due("22 no bag", x.packing(-1), BAD);
        x.bag(2);
        Check.due("22 no thing", x.packing(-1), NONE);
        Check.due("22 no such thing", x.packing(0), BAD);
        Check.due("22 below", x.packing(-2), BAD);
        for (int t = 0; t < 7; t++) x.thing(1, 0, t == 0 ? 5 : 0, 1, 0);
        Check.due("22 full", x.packing(-1), FULL);
        Check.due("22 full of a thing", x.packing(6), FULL);
        Check.due("22 bad ahead of full", x.packing(7), BAD);
        Check.way(x, "..");
        x.pack(0, 0);
        x.set(0, 1, 12);
        Check.due("22 falls by the corner", x.step(), 1);
        Check.due("22 six", x.packing(-1), NONE);
        Check.due("22 on the ground", x.packing(0), NONE);
        Check.due("22 in a bag", x.packing(6), 0);
        x = Check.walk("..", "P;30@0");
        x.set(0, 1, 50);
        x.step();
        Check.due("22 one handle is no tear", x.packing(-1), 1);
        x.step();
        Check.due("22 no handle", x.packing(-1), BAD);
    }

    private static void promise23() {
        TornBag x = Check.walk(".....", "P,P;30@0,30@1");
        Check.due("23 holds as it is", x.doubled(), NONE);
        x.set(0, 1, 43);
        x.set(1, 1, 44);
        Check.due("23 the worse one", x.doubled(), 1);
        Check.due("23 it is but told", x.of(1, 0), 0);
        x.set(0, 1, 44);
        Check.due("23 both alike", x.doubled(), NONE);
        x.set(1, 1, 0);
        Check.due("23 the first", x.doubled(), 0);
        x = Check.walk("...", "C,T,D;1@0,1@1,1@2");
        x.set(0, 1, 100);
        Check.due("23 none of paper", x.doubled(), NONE);
        Check.due("23 no bag", new TornBag().doubled(), NONE);
        x = Check.walk("b", "P;30@0");
        x.set(0, 1, 34);
        Check.due("23 jolt 7 holds", x.doubled(), NONE);
        x.set(0, 1, 40);
        Check.due("23 by jolt 7", x.doubled(), 0);
    }

    private static TornBag goods(int[][] weightAndWorth, int wear) {
        TornBag x = new TornBag();
        Check.way(x, "...");
        x.bag(3);
        x.set(0, 1, wear);
        for (int[] t : weightAndWorth) x.pack(x.thing(t[0], 0, 0, t[1], 0), 0);
        return x;
    }

    private static void left(String say, TornBag x, int set, int worth) {
        Check.due("24 " + say, x.leave(0), set);
        Check.due("24 worth: " + say, x.leave(1), worth);
    }

    private static void promise24() {
        left("the least set", goods(new int[][] {{30, 5}, {20, 5}, {10, 1}}, 57), 1, 5);
        left("the fewest", goods(new int[][] {{10, 1}, {10, 1}, {20, 2}}, 77), 4, 2);
        left("the least worth", goods(new int[][] {{30, 9}, {10, 3}, {10, 4}, {10, 8}}, 57), 6, 7);
        left("worth nothing", goods(new int[][] {{10, 0}, {10, 0}, {30, 9}}, 65), 3, 0);
        left("all", goods(new int[][] {{10, 7}, {10, 8}}, 200), 3, 15);
        left("none", goods(new int[][] {{10, 7}, {10, 8}}, 0), 0, 0);
        TornBag x = Check.walk("b", "C,P;30@0,12@1,20@1,30");
        x.set(0, 1, 50);
        x.set(1, 1, 55);
        left("of several bags, by jolt 7", x, 7, 62);
        x.set(1, 1, 45);
        left("of two", x, 5, 50);
        Check.due("24 what", x.leave(2), BAD);
        Check.due("24 below", x.leave(-1), BAD);
    }

    /** Lets a thing fall of a new bag at a step, all steps ahead of it being gone. */
    private static void fall(TornBag x, int thing, int bag, int step) {
        while (x.count(3) < step) x.step();
        x.pack(thing, bag);
        x.set(bag, 1, 999);
        Check.due("falls at " + step, x.step() & 1 << thing, 1 << thing);
    }

    private static void rolls(String way, int step, int want) {
        TornBag x = Check.walk(way, "C;1r");
        fall(x, 0, 0, step);
        Check.due("25 " + way + " at " + step, x.rolls(0), want);
    }

    private static void promise25() {
        int[] want = {0, 1, 2, 0, 0, 2, 1, 0, 0};
        for (int s = 0; s < 9; s++) rolls("uuud.dddb", s, want[s]);
        rolls("ddu", 0, 1);
        rolls("ddu", 2, 0);
        rolls("dddddddddddddddddddd", 0, 19);
        rolls("uuuuuuuuuuuuuuuuuuuu", 19, 19);
        TornBag x = Check.walk("uuu", "C,C;1r,1,1r");
        Check.due("25 nowhere", x.rolls(0), NOT);
        fall(x, 0, 0, 2);
        Check.due("25 rolls", x.rolls(0), 2);
        x.pack(2, 1);
        Check.due("25 in a bag", x.rolls(2), NOT);
        x.again();
        fall(x, 1, 1, 1);
        Check.due("25 not round", x.rolls(1), NOT);
        Check.due("25 bad", x.rolls(3), BAD);
        Check.due("25 below", x.rolls(-1), BAD);
        Check.way(x, "uu");
        Check.due("25 at a step that is no more", x.rolls(0), 0);
        Check.way(x, "ddd");
        Check.due("25 the last step", x.rolls(0), 0);
        Check.way(x, "..dd");
        Check.due("25 by the new way", x.rolls(0), 1);
    }

    private static void order(String say, TornBag x, int worth, int[] want) {
        Check.due("26 worth: " + say, x.run(-1), worth);
        for (int i = 0; i < want.length; i++) Check.due("26 " + say + ", " + i, x.run(i), want[i]);
        for (int i = want.length; i < 8; i++) Check.due("26 none: " + say + ", " + i, x.run(i), NONE);
    }

    private static void promise26() {
        TornBag x = Check.walk("uuuu", "C,C,C;7r,8r,1r,2,9r");
        fall(x, 1, 0, 1);
        fall(x, 0, 1, 2);
        order("both, if the nearer is first", x, 15, new int[] {1, 0});
        fall(x, 2, 2, 3);
        order("one of three is lost", x, 15, new int[] {1, 0, 2});
        Check.due("26 above", x.run(8), BAD);
        Check.due("26 below", x.run(-2), BAD);
        x = Check.walk("uuu", "C,C;5r@0,6r@0,7r@0,9@0,8r@1");
        x.step();
        x.step();
        x.set(0, 1, 999);
        Check.due("26 all at once", x.step(), 15);
        order("the dearest first", x, 7, new int[] {2, 0, 1});
        x = Check.walk("..", "C;5r@0,6r@0,7@0");
        x.set(0, 1, 999);
        x.step();
        order("had in any case", x, 11, new int[] {0, 1});
        order("none", Check.walk("..", "C;5r@0"), 0, new int[] {});
        x = Check.walk("uu", "C,C,C;5r,6r,7r");
        fall(x, 0, 0, 0);
        fall(x, 1, 1, 1);
        order("one that lies may be first", x, 11, new int[] {0, 1});
    }

    private static void promise26Refused() {
        TornBag x = Check.walk("..", "C;1r@0,1r@0,1r@0,1r@0,1r@0,1r@0,1r@0,1@0");
        x.set(0, 1, 999);
        Check.due("26 all fall", x.step(), 255);
        Check.due("26 full", x.run(-1), FULL);
        Check.due("26 full, i-th", x.run(7), FULL);
        Check.due("26 bad ahead of full", x.run(8), BAD);
        x.give(3);
        Check.due("26 six", x.run(-1), 6);
        Check.due("26 the last", x.run(5), 6);
        Check.due("26 no seventh", x.run(6), NONE);
        for (int t = 0; t < 7; t++) x.give(t);
        Check.due("26 not round", x.run(0), NONE);
        Check.due("26 had none", x.run(-1), 0);
    }

    private static void promise27() {
        TornBag x = Check.walk("..s..", "C,C,C;10@0,3@0,4@1,9");
        Check.due("27 n", x.hands(0, 1, 0), 1);
        Check.due("27 tired", x.hands(0, 1, 1), 3 * 13 + 2 * 4);
        Check.due("27 the other first", x.hands(1, 0, 1), 3 * 13 + 2 * 4);
        Check.due("27 an empty one", x.hands(2, 1, 1), 12);
        x.step();
        Check.due("27 from here", x.hands(0, 1, 1), 2 * 17);
        Check.due("27 alike", x.hands(1, 1, 0), BAD);
        Check.due("27 first", x.hands(3, 1, 0), BAD);
        Check.due("27 other", x.hands(1, 3, 0), BAD);
        Check.due("27 below", x.hands(-1, 0, 0), BAD);
        Check.due("27 other below", x.hands(0, -1, 0), BAD);
        Check.due("27 what", x.hands(0, 1, 2), BAD);
        Check.due("27 what below", x.hands(0, 1, -1), BAD);
        for (int s = 1; s < 5; s++) x.step();
        Check.due("27 home", x.hands(0, 1, 1), 0);
        Check.due("27 the least n", x.hands(0, 1, 0), 1);
    }

    private static void torn(String say, TornBag x, int set, int jolts, int step) {
        Check.due("28 jolts: " + say, x.torn(0, set, 0), jolts);
        Check.due("28 step: " + say, x.torn(0, set, 1), step);
    }

    private static void promise28() {
        torn("by the bus alone", cloth("b.d", 55), 1, 3, 0);
        torn("by the bus or on the stairs", cloth("b.d", 59), 1, 8, 0);
        torn("on the stairs", cloth("..d", 59), 1, 8, 2);
        torn("holds", cloth("..d", 0), 1, 0, NONE);
        TornBag x = Check.walk("....", "T,C;1e2@0,1e5@0,1e1@0,1,2@1");
        x.set(0, 1, 10);
        torn("by the corner", x, 1, 8, 0);
        torn("not the first", x, 6, 0, NONE);
        torn("not at once", x, 7, 0, NONE);
        torn("not in it", x, 8, 0, NONE);
        x.set(1, 1, 98);
        Check.due("28 of the other bag", x.torn(1, 16, 1), 0);
        Check.due("28 not of this", x.torn(1, 1, 0), 0);
        Check.due("28 none", x.torn(0, 0, 0), BAD);
        Check.due("28 no such thing", x.torn(0, 32, 0), BAD);
        Check.due("28 one of these is not there", x.torn(0, 33, 0), BAD);
        Check.due("28 below", x.torn(0, -1, 0), BAD);
        Check.due("28 bag", x.torn(2, 1, 0), BAD);
        Check.due("28 bag below", x.torn(-1, 1, 0), BAD);
        Check.due("28 what", x.torn(0, 1, 2), BAD);
        Check.due("28 what below", x.torn(0, 1, -1), BAD);
        x.step();
        torn("from here", x, 6, 8, 3);
    }

    private static void nothingIsChanged() {
        TornBag x = Check.walk("b.udb", "P,T;20w3e1@0,15r@0,9w5r@1,3");
        x.seed(77);
        x.sheet(0, 2, 9);
        x.holds(7);
        x.odds(0);
        x.packing(-1);
        x.doubled();
        x.leave(0);
        x.run(-1);
        x.hands(0, 1, 0);
        x.torn(0, 3, 0);
        x.film(5, 0, 2, 0);
        x.sagged(0, 0, 2, 0, 3, 0);
        Check.due("wet, wear, places", x.of(0, 1) + x.of(0, 2) + x.of(0, 3) + x.of(1, 1) + x.of(1, 2) + x.of(1, 3), 0);
        Check.due("things", x.of(0, 4) * 100 + x.of(1, 4), 304);
        Check.due("kinds", x.of(0, 0) * 10 + x.of(1, 0), 2);
        Check.due("step", x.count(3), 0);
        Check.due("undone", x.count(5), 0);
        Check.due("draw", x.seed(1), 77);
    }
}
