/** The boundary cases of promises 20 to 28: what comes. */
public final class OutlookBoundsTest {
    private static final String TWENTY_FLAT = "way[....................]";
    /** Of cloth, with 30 in it: on a bus it gives by jolt j, if it is as strong as 29 and 3 times j then, or less. */
    private static final String CLOTH = " shop[C;30@0] ";

    public static void main(String[] args) {
        holds();
        holdsOfBags();
        odds();
        oddsFractions();
        packing();
        packingBest();
        packingRefused();
        doubled();
        leave();
        leaveLikeOnes();
        rolls();
        rollsEnds();
        run();
        runOrders();
        runRefused();
        hands();
        torn();
        tornFalls();
        Check.end("OutlookBoundsTest");
    }

    private static void holds() {
        Calls.due("20 BAD: jolt", "way[b]" + CLOTH + "holds(-1)=BAD holds(8)=BAD holds(LOW)=BAD holds(HIGH)=BAD");
        Calls.due("20 jolts 0 .. 7", "way[b]" + CLOTH + "set(0,1,48) holds(0..7)=NONE set(0,1,49) holds(0..7)=NONE,NONE,NONE,NONE,NONE,NONE,NONE,0",
            "set(0,1,69) holds(0..7)=NONE,0,0,0,0,0,0,0 set(0,1,70) holds(0..7)=0");
        Calls.due("20 NONE: no way, no bag, nothing in it", "holds(0)=NONE way[.] holds(0)=NONE shop[P;30] set(0,0,999) holds(7)=NONE");
        Calls.due("20 NONE: at home", "way[.] shop[P;30@0] step()=0 set(0,0,999) holds(7)=NONE again() holds(7)=0");
        Calls.due("20 the first step", "way[...]" + CLOTH + "set(0,1,70) holds(0)=0");
        Calls.due("20 the last of 20", TWENTY_FLAT + CLOTH + "set(0,1,51) holds(0)=19 set(0,1,50) holds(0)=NONE");
        Calls.due("20 from here", "way[...]" + CLOTH + "set(0,1,68) holds(0)=2 step()=0 set(0,1,68) holds(0)=NONE set(0,1,69) holds(0)=2");
        Calls.due("20 the jolt is but in a bus", "way[.uds]" + CLOTH + "set(0,1,57) holds(0..7)=NONE set(0,1,60) holds(0..7)=2 set(0,1,63) holds(0..7)=1 set(0,1,70) holds(0..7)=0");
        Calls.due("20 nothing gives on a bench", "way[ssss]" + CLOTH + "set(0,1,999) holds(7)=NONE way[sss.] holds(7)=3");
        Calls.due("20 a handle that gives counts", "way[..] shop[P;30@0] set(0,1,44) holds(0)=1 step() holds(0)=1 step()=0 of(0,3)=2");
        Calls.due("20 a corner that gives counts", "way[..] shop[T;1e4@0] set(0,1,15) holds(0)=0 step()=1 holds(0)=NONE");
        Calls.due("20 wet is 999 at most in what comes, too", "way[.....] shop[T;1w5@0] set(0,0,998) holds(7)=NONE");
    }

    private static void holdsOfBags() {
        String shop = "way[.....] shop[C,C,C;30@0,30@1,30@2] ";
        Calls.due("20 of any bag the first: the third", shop + "set(0,1,66) set(1,1,67) set(2,1,68) holds(0)=2");
        Calls.due("20 of any bag the first: the first", shop + "set(0,1,69) set(1,1,67) set(2,1,68) holds(0)=1");
        Calls.due("20 of any bag the first: two at once", shop + "set(0,1,67) set(1,1,67) holds(0)=3");
        Calls.due("20 of any bag the first: the only one that holds something", "way[..] shop[C,C,C;30@2] set(2,1,69) holds(0)=1 odds(0..1)=0,1 leave(0..1)=1,30 torn(2,1,0..1)=8,1");
        Calls.due("20 it goes by places as they are now", "way[...] shop[P;30@0] set(0,1,45) step()=0 of(0,3)=2 set(0,1,27) holds(0)=NONE set(0,1,29) holds(0)=2 set(0,1,30) holds(0)=1");
        Calls.due("20 nothing is changed", shop + "set(0,1,69) holds(0)=1 holds(0)=1 of(0,1..4)=0,69,0,1 count(3)=0");
    }

    private static void odds() {
        Calls.due("21 BAD", "odds(-1)=BAD odds(2)=BAD odds(LOW)=BAD odds(HIGH)=BAD");
        Calls.due("21 FULL: more than 4 are left", "way[bbbbb] odds(0..1)=FULL way[bbbbbbbbbbbbbbbbbbbb] odds(0..1)=FULL");
        Calls.due("21 BAD ahead of FULL", "way[bbbbb] odds(2)=BAD odds(-1)=BAD");
        Calls.due("21 4 may be left", "way[bbbb]" + CLOTH + "odds(0..1)=1 way[.b.b.b.b.] odds(0..1)=1");
        Calls.due("21 4 are left of 5", "way[bbbbb]" + CLOTH + "step() odds(0..1)=1 again() odds(0)=FULL");
        Calls.due("21 5 are left, far behind", "way[...............bbbbb] odds(0)=FULL 16*step() odds(0)=1");
        Calls.due("21 no step, no bag", "odds(0..1)=1 way[.] odds(0..1)=1 way[b] odds(0..1)=1");
        Calls.due("21 at home", "way[b]" + CLOTH + "step()=0 set(0,1,999) odds(0..1)=1");
    }

    private static void oddsFractions() {
        String bus = "way[b]" + CLOTH;
        Calls.due("21 lowest terms, of 8", bus + "set(0,1,48) odds(0..1)=1 set(0,1,49) odds(0..1)=7,8 set(0,1,52) odds(0..1)=3,4 set(0,1,55) odds(0..1)=5,8",
            "set(0,1,58) odds(0..1)=1,2 set(0,1,61) odds(0..1)=3,8 set(0,1,64) odds(0..1)=1,4 set(0,1,67) odds(0..1)=1,8 set(0,1,70) odds(0..1)=0,1");
        Calls.due("21 never is 0 by 1", "way[bbbb]" + CLOTH + "set(0,1,999) odds(0..1)=0,1 way[.] odds(0..1)=0,1");
        Calls.due("21 surely is 1 by 1", "way[bb.]" + CLOTH + "odds(0..1)=1");
        Calls.due("21 the least of 4 buses", "way[bbbb] shop[C;30@0,30@0] set(0,1,34) odds(0..1)=1,4096");
        Calls.due("21 7 of 8 four times", "way[bbbb] shop[C;30@0,30@0] odds(0..1)=2401,4096");
        Calls.due("21 steps of a bus apart", "way[b.b]" + CLOTH + "set(0,1,55) odds(0..1)=25,64 set(0,1,51) odds(0..1)=21,32");
        Calls.due("21 by a step without bus", "way[bd]" + CLOTH + "set(0,1,59) odds(0..1)=1,2 set(0,1,60) odds(0..1)=0,1");
        Calls.due("21 one jolt for all bags", "way[b] shop[C,C;30@0,30@1] set(0,1,58) set(1,1,64) odds(0..1)=1,4 set(1,1,0) odds(0..1)=1,2");
        Calls.due("21 nothing gives on a bench", "way[s]" + CLOTH + "set(0,1,999) odds(0..1)=1");
        Calls.due("21 a handle that gives is not held", "way[b] shop[P;30@0] set(0,1,40) odds(0..1)=1,2");
    }

    private static void packing() {
        Calls.due("22 no thing", "way[.] bag(0) packing(-1)=NONE");
        Calls.due("22 HOLDS by it: none", "way[.] shop[P;30,1] packing(-1)=NONE packing(0..1)=0");
        Calls.due("22 HOLDS by it: the first and the last step", TWENTY_FLAT + " shop[C;30] set(0,1,70) packing(-1)=0 set(0,1,51) packing(-1)=19 set(0,1,50) packing(-1)=NONE");
        Calls.due("22 with jolt 7", "way[b]" + CLOTH + "set(0,1,49) packing(-1)=0 set(0,1,48) packing(-1)=NONE");
        Calls.due("22 from here", "way[...]" + CLOTH + "step() set(0,1,69) packing(-1)=2");
        Calls.due("22 at home and without a way", "shop[C;30@0] set(0,1,999) packing(-1)=NONE way[.] packing(-1)=0 undo() step()=1 packing(-1)=BAD");
        Calls.due("22 NONE: it is on the ground", "way[..] shop[T;1e4@0,2] set(0,1,15) step()=1 packing(0)=NONE packing(1)=0 packing(-1)=NONE");
        Calls.due("22 things in bags and nowhere alike", "way[..] shop[C,C;30@1,30,30@0] set(0,1,69) packing(-1)=NONE packing(0..2)=1 told(0..2,5)=1,3,0");
        Calls.due("22 6 at most", "way[.] shop[P,P,P;1,1,1,1@0,1@1,1@2] packing(-1)=NONE packing(0..5)=0");
        Calls.due("22 6, the others on the ground", "way[..] shop[C,P;1@0,1@0,1,1,1,1,1,1] set(0,1,99) step()=3 shop[P;1] packing(0)=0");
    }

    private static void packingBest() {
        Calls.due("22 none is farthest of all", "way[...] shop[C,C;30] set(0,1,69) packing(-1)=NONE packing(0)=1");
        Calls.due("22 the farthest", "way[...] shop[C,C;30] set(0,1,69) set(1,1,68) packing(-1)=2 packing(0)=1");
        Calls.due("22 of like ones the first as a row: one thing", "way[...] shop[C,C,C;30] set(0,1,70) set(1..2,1,69) packing(-1)=1 packing(0)=1");
        Calls.due("22 of like ones the first as a row: two things", "way[.] shop[C,C;30,30] set(0..1,1,60) packing(-1)=NONE packing(0..1)=0,1");
        Calls.due("22 of like ones the first as a row: all bad", "way[.] shop[C,C;30,30] set(0..1,1,999) packing(-1)=0 packing(0..1)=0");
        Calls.due("22 the row goes by things, the lower first", "way[.] shop[C,C;30,20,10] set(0,1,69) set(1,1,59) packing(-1)=NONE packing(0..2)=0,1,1");
        Calls.due("22 the row is of all that are moved", "way[.] shop[C,C;10,20,30] set(0,1,69) set(1,1,59) packing(-1)=NONE packing(0..2)=0,0,1");
        Calls.due("22 a later bag ahead of an earlier one", "way[.] shop[C,C;30,10] set(0,1,89) set(1,1,69) packing(-1)=NONE packing(0..1)=1,0",
            "shop[C,C,C;30,20,10] set(0,1,89) set(1,1,79) set(2,1,69) packing(-1)=NONE packing(0..2)=2,1,0");
        Calls.due("22 all bad, whatever was found ahead of it", "way[.] shop[C,C;30,10] set(0,1,89) set(1,1,69) packing(0..1)=1,0 set(0..1,1,999) packing(-1)=0 packing(0..1)=0");
        Calls.due("22 of those that are moved now, not ahead of it", "way[..] shop[T,C;1e4@0,2,3] set(0,1,15) packing(-1..2)=NONE,1,0,0 step()=1 packing(-1..2)=NONE,NONE,0,0",
            "set(1,1,98) set(0,1,67) packing(-1..2)=1,NONE,0,0");
        Calls.due("22 six in three bags", "way[.] shop[C,C,C;30,30,30,30,30,30] set(0..2,1,39) packing(-1)=NONE packing(0..5)=0,0,1,1,2,2");
    }

    private static void packingRefused() {
        Calls.due("22 BAD: no such thing", "shop[P;1,1] packing(2)=BAD packing(-2)=BAD packing(8)=BAD packing(LOW)=BAD packing(HIGH)=BAD");
        Calls.due("22 BAD: no bag", "packing(-1)=BAD thing(1,0,0,0,0) packing(-1..0)=BAD bag(0) packing(-1..0)=NONE,0");
        Calls.due("22 BAD: a bag without bottom", "way[.] shop[C,P;1@0,30@1] set(1,0,40) step()=2 packing(-1..1)=BAD");
        Calls.due("22 BAD: a bag without handles", "way[..] shop[P;30@0] set(0,1,45) 2*step()=0,1 packing(-1..0)=BAD");
        Calls.due("22 one handle is enough", "way[..] shop[P;30@0] set(0,1,45) step()=0 of(0,3)=2 packing(-1..0)=1,0");
        Calls.due("22 no corner is needed", "way[..] shop[T;1e4@0,1] set(0,1,15) step()=1 of(0,3)=8 packing(-1)=NONE packing(1)=0");
        Calls.due("22 FULL: more than 6", "shop[P;1,1,1,1,1,1,1] packing(-1..6)=FULL shop[P;1@0,1@0,1@0,1@0,1,1,1,1] packing(-1..7)=FULL");
        Calls.due("22 BAD ahead of FULL: no such thing", "shop[P;1,1,1,1,1,1,1] packing(7)=BAD packing(-2)=BAD");
        Calls.due("22 BAD ahead of FULL: no bag", "7*thing(1,0,0,0,0) packing(-1)=BAD");
        Calls.due("22 BAD ahead of FULL: a bag is torn", "way[.] shop[C,P;30@1,1,1,1,1,1,1,1] set(1,0,40) step()=1 packing(-1)=BAD");
        Calls.due("22 7, of which one is on the ground", "way[.] shop[T;1e4@0,1,1,1,1,1,1] set(0,1,15) step()=1 packing(-1..6)=NONE,NONE,0,0,0,0,0,0");
        Calls.due("22 8, of which one is on the ground", "way[.] shop[T;1e4@0,1,1,1,1,1,1,1] set(0,1,15) step()=1 packing(-1)=FULL packing(7)=FULL");
    }

    private static void doubled() {
        String two = "way[.....] shop[P,P;30@0,30@1] ";
        Calls.due("23 NONE: no bag, no way, nothing in it", "doubled()=NONE bag(0) doubled()=NONE set(0,0,999) way[.] doubled()=NONE");
        Calls.due("23 NONE: it holds as it is", two + "doubled()=NONE");
        Calls.due("23 the one that gives first", two + "set(0,1,42) doubled()=0 set(0,1,0) set(1,1,42) doubled()=1");
        Calls.due("23 NONE: both give at once", two + "set(0..1,1,42) doubled()=NONE set(0,1,43) doubled()=0");
        Calls.due("23 farther, though not till home", two + "set(0,1,43) set(1,1,42) doubled()=0 set(0,1,42) set(1,1,44) doubled()=1");
        Calls.due("23 NONE: none makes it farther", "way[.....] shop[P;30@0] set(0,1,85) doubled()=NONE set(0,1,84) doubled()=0");
        Calls.due("23 NONE: no bag of paper gives first", "way[...] shop[C,P;30@0,30@1] set(0,1,70) doubled()=NONE set(1,1,50) doubled()=NONE");
        Calls.due("23 NONE: no bag of kind paper", "way[...] shop[D,T,C;30@0,30@1,30@2] set(0..2,1,40) holds(7)=0 doubled()=NONE");
        Calls.due("23 the third bag", "way[...] shop[C,D,P;1@0,1@1,30@2] set(2,1,45) doubled()=2");
        Calls.due("23 with jolt 7", "way[b] shop[P;30@0] set(0,1,34) doubled()=NONE set(0,1,35) doubled()=0");
        Calls.due("23 with jolt 7 when it is double, too", "way[b] shop[P;30@0] set(0,1,73) doubled()=0 set(0,1,74) doubled()=0 set(0,1,75) doubled()=NONE");
        Calls.due("23 at home", "way[.] shop[P;30@0] step() set(0,1,999) doubled()=NONE");
        Calls.due("23 nothing is changed", two + "set(0,1,42) doubled()=0 of(0..1,0)=0 doubled()=0");
    }

    private static void leave() {
        Calls.due("24 BAD", "leave(-1)=BAD leave(2)=BAD leave(LOW)=BAD leave(HIGH)=BAD");
        Calls.due("24 nothing need be left", "leave(0..1)=0 way[...]" + CLOTH + "leave(0..1)=0");
        Calls.due("24 all must be left", "way[.] shop[C;30@0,5@0] set(0,1,999) leave(0..1)=3,35");
        Calls.due("24 all of 8 in three bags", "way[.] shop[C,C,C;1@0,2@1,3@2,4@0,5@1,6@2,7@0,8@1] set(0..2,1,999) leave(0..1)=255,36");
        Calls.due("24 some of 8 in one bag", "way[.] shop[C;1@0,2@0,3@0,4@0,5@0,6@0,7@0,8@0] set(0,1,63) leave(0..1)=0 set(0,1,64) leave(0..1)=1,1 set(0,1,71) leave(0..1)=128,8");
        Calls.due("24 not what is nowhere or on the ground", "way[..] shop[C,C;30@0,1@1,9] set(1,1,99) step()=2 set(0,1,999) leave(0..1)=1,30");
        Calls.due("24 with jolt 7", "way[b]" + CLOTH + "set(0,1,48) leave(0)=0 set(0,1,49) leave(0..1)=1,30");
        Calls.due("24 at home", "way[.]" + CLOTH + "step() set(0,1,999) leave(0..1)=0");
        Calls.due("24 on benches alone", "way[ss]" + CLOTH + "set(0,1,999) leave(0..1)=0");
        Calls.due("24 of each bag apart", "way[.] shop[C,C;30@0,10@0,30@1,10@1] set(0,1,59) set(1,1,64) leave(0..1)=8,10");
        Calls.due("24 by the corner: what has edges", "way[.] shop[T;30@0,1e5@0] set(0,1,14) leave(0..1)=2,1");
    }

    /** In a bag of cloth that is worn by w there may be 99 - w behind a step. */
    private static void leaveLikeOnes() {
        String bag = "way[.] bag(3) ";
        Calls.due("24 least worth, not least weight", bag + "thing(30,0,0,5,0) thing(10,0,0,6,0) pack(0..1,0) set(0,1,60) leave(0..1)=1,5");
        Calls.due("24 worth of two below that of one", bag + "thing(10,0,0,2,0) thing(10,0,0,2,0) thing(20,0,0,5,0) pack(0..2,0) set(0,1,79) leave(0..1)=3,4");
        Calls.due("24 of like worth the fewest", bag + "thing(10,0,0,2,0) thing(10,0,0,3,0) thing(20,0,0,5,0) pack(0..2,0) set(0,1,79) leave(0..1)=4,5");
        Calls.due("24 of like worth, of as many, the least set", bag + "thing(10,0,0,5,0) thing(10,0,0,5,0) thing(10,0,0,5,0) pack(0..2,0) set(0,1,70) leave(0..1)=1,5 set(0,1,80) leave(0..1)=3,10");
        Calls.due("24 the least set is the least number", bag + "thing(10,0,0,3,0) thing(10,0,0,1,0) thing(10,0,0,2,0) thing(10,0,0,4,0) pack(0..3,0) set(0,1,75) leave(0..1)=6,3",
            "set(0,1,80) leave(0..1)=7,6 shop[C;10@0] 3*thing(20,0,0,10,0) pack(1..3,0) set(0,1,69) leave(0..1)=6,20");
        Calls.due("24 what is worth nothing is left but if it helps", bag + "thing(1,0,0,0,0) thing(30,0,0,9,0) pack(0..1,0) set(0,1,68) leave(0..1)=0 set(0,1,69) leave(0..1)=1,0 set(0,1,70) leave(0..1)=2,9");
        Calls.due("24 most worth of all", "way[.] bag(3) 8*thing(30,0,0,99,0) pack(0..7,0) set(0,1,999) leave(0..1)=255,792");
    }

    /** Lets thing 0 fall of a bag of cloth at a step. */
    private static String fallAt(String way, int step) {
        return "way[" + way + "] shop[C,C;1r@0,1,1r@1] " + (step == 0 ? "" : step + "*step() ") + "set(0,1,99) step()=1 ";
    }

    private static void rolls() {
        Calls.due("25 BAD", "shop[P;1r,1] rolls(2)=BAD rolls(-1)=BAD rolls(8)=BAD rolls(LOW)=BAD rolls(HIGH)=BAD");
        Calls.due("25 NOT: it is not round", "way[u] shop[C;1@0] set(0,1,99) step()=1 rolls(0)=NOT");
        Calls.due("25 NOT: it is not on the ground", "way[u] shop[C;1r@0,1r] rolls(0..1)=NOT");
        Calls.due("25 NOT: neither", "shop[C;1@0,1] rolls(0..1)=NOT");
        Calls.due("25 BAD ahead of NOT", "shop[C;1] rolls(1)=BAD");
        Calls.due("25 NOT: it was taken from the ground", fallAt("uu", 1) + "rolls(0)=1 pack(0,1)=11 rolls(0)=NOT");
        Calls.due("25 NOT: it was given away", fallAt("uu", 1) + "give(0)=11 rolls(0)=NOT");
        Calls.due("25 from others 0", fallAt("..", 0) + "rolls(0)=0").go("way[bb] rolls(0)=0 way[ss] rolls(0)=0");
    }

    private static void rollsEnds() {
        Calls.due("25 up at the first step", fallAt("uuu", 0) + "rolls(0)=0");
        Calls.due("25 up, back to the first step", fallAt("uuu", 2) + "rolls(0)=2");
        Calls.due("25 up, back to the last such", fallAt("u.uu", 3) + "rolls(0)=1");
        Calls.due("25 up, behind another", fallAt("uduu", 2) + "rolls(0)=0");
        Calls.due("25 up rolls not on", fallAt(".uuu", 1) + "rolls(0)=0");
        Calls.due("25 down at the last step", fallAt("ddd", 2) + "rolls(0)=0");
        Calls.due("25 down, on to the last step", fallAt("ddd", 0) + "rolls(0)=2");
        Calls.due("25 down, on to the last such", fallAt("dd.d", 0) + "rolls(0)=1");
        Calls.due("25 down, ahead of another", fallAt("ddud", 1) + "rolls(0)=0");
        Calls.due("25 down rolls not back", fallAt("ddd.", 2) + "rolls(0)=0");
        Calls.due("25 all 20 up", fallAt("uuuuuuuuuuuuuuuuuuuu", 19) + "rolls(0)=19");
        Calls.due("25 all 20 down", fallAt("dddddddddddddddddddd", 0) + "rolls(0)=19");
        Calls.due("25 down, to the end of a new, shorter way", fallAt("ddddd", 0) + "rolls(0)=4 way[dd]=2 rolls(0)=1 way[d]=1 rolls(0)=0");
        Calls.due("25 behind the end of a new, shorter way", fallAt("uuuu", 3) + "rolls(0)=3 way[uuu]=3 rolls(0)=0 way[uuuu]=4 rolls(0)=3 way[dddd]=4 rolls(0)=0");
        Calls.due("25 wherever one is now", fallAt("ddd", 0) + "2*step() rolls(0)=2 again() rolls(0)=2");
    }

    private static void run() {
        Calls.due("26 none on the ground", "run(-1)=0 run(0..7)=NONE shop[P;1r@0,1r] run(-1)=0 run(0..7)=NONE");
        Calls.due("26 not those that are not round", "way[.] shop[C;1@0,2r@0,3@0] set(0,1,99) step()=7 run(-1)=2 run(0..7)=1,NONE,NONE,NONE,NONE,NONE,NONE,NONE");
        Calls.due("26 6 at most", "way[.] shop[C;1r@0,2r@0,3r@0,4r@0,5r@0,6r@0] set(0,1,99) step()=63 run(-1)=21 run(0..7)=0,1,2,3,4,5,NONE,NONE");
        Calls.due("26 6 round ones of 8", "way[.] shop[C;1@0,2r@0,3r@0,4r@0,5r@0,6r@0,7r@0,8@0] set(0,1,99) step()=255 run(-1)=27 run(0..6)=1,2,3,4,5,6,NONE");
        Calls.due("26 one that rolls 0 steps is had in any case", "way[uuu] shop[C,C;1r@0,2r@1,3r@1,4r@1,5r@1,6r@1] 2*step() set(0,1,99) step()=1",
            "again() set(1,1,99) step()=62 run(-1)=21 run(0..5)=0,1,2,3,4,5");
        Calls.due("26 behind longer ones too", "way[dddd] shop[C,C;7r@0,1r@1] set(0,1,99) step()=1 2*step() set(1,1,99) step()=2 run(-1)=8 run(0..1)=0,1");
    }

    /** Three bags of cloth; a thing that falls at step s of "uuuu.." rolls s steps. */
    private static void runOrders() {
        String bags = "way[uuuuuuu] shop[C,C,C;";
        Calls.due("26 had just in time: 3 and 5 seconds by 8", bags + "5r@0,6r@1] step() set(0,1,99) step()=1 set(1,1,99) step()=2 rolls(0..1)=1,2 run(-1)=11 run(0..1)=0,1");
        Calls.due("26 had just in time, of like ones the first as a row", bags + "5r@0,6r@1] 2*step() set(0,1,99) step()=1 again() step() set(1,1,99) step()=2 rolls(0..1)=2,1 run(-1)=11 run(0..1)=1,0");
        Calls.due("26 too late by one: 3 and 3 seconds by 5", bags + "5r@0,6r@0] step() set(0,1,99) step()=3 rolls(0..1)=1 run(-1)=6 run(0..1)=1,0");
        Calls.due("26 alike in worth: the first as a row", bags + "6r@0,6r@0] step() set(0,1,99) step()=3 run(-1)=6 run(0..1)=0,1");
        Calls.due("26 two that lie ahead: 1, 1 and 3 seconds by 5", bags + "5r@0,6r@0,7r@1] set(0,1,99) step()=3 set(1,1,99) step()=4 rolls(0..2)=0,0,1 run(-1)=18 run(0..2)=0,1,2");
        Calls.due("26 three that lie ahead are too many", bags + "5r@0,6r@0,7r@0,8r@1] set(0,1,99) step()=7 set(1,1,99) step()=8 run(-1)=26 run(0..3)=0,1,3,2");
        Calls.due("26 worth nothing: it runs as a row", bags.replace("shop[C,C,C;", "bag(3) thing(1,0,0,0,1) thing(1,0,0,0,1) pack(0..1,0) "), "step() set(0,1,99) step()=3 run(-1)=0 run(0..1)=0,1");
        Calls.due("26 of those that lie there now, not ahead of it", "way[.] shop[C;1r@0,2r@0,4r@0,8r@0] set(0,1,99) step()=15 run(-1)=15 give(0) run(-1)=14 run(0..3)=1,2,3,NONE",
            "give(2) run(-1)=10 run(0..2)=1,3,NONE give(3) run(-1)=2 run(0..1)=1,NONE give(1) run(-1)=0 run(0)=NONE");
        Calls.due("26 one dear against two cheap", bags + "3r@0,4r@0,30r@1] 2*step() set(0,1,99) step()=3 2*step() set(1,1,99) step()=4 rolls(0..2)=2,2,5 run(-1)=34 run(0..2)=1,2,0");
        String down = "way[dddddddddddddddddddd] shop[C,C;9r@0,1r@1] ";
        Calls.due("26 far, in time: 19 and 39 seconds by 59", down + "set(0,1,99) step()=1 9*step() set(1,1,99) step()=2 rolls(0..1)=19,9 run(-1)=10 run(0..1)=1,0");
        Calls.due("26 far, just in time: 19 and 37 seconds by 56", down + "step() set(0,1,99) step()=1 8*step() set(1,1,99) step()=2 rolls(0..1)=18,9 run(-1)=10 run(0..1)=1,0");
        Calls.due("26 far, too late by one: 19 and 35 seconds by 53", down + "2*step() set(0,1,99) step()=1 7*step() set(1,1,99) step()=2 rolls(0..1)=17,9 run(-1)=9 run(0..1)=0,1");
    }

    private static void runRefused() {
        String seven = "way[.] shop[C;1r@0,1r@0,1r@0,1r@0,1r@0,1r@0,1r@0,1@0] set(0,1,99) step()=255 ";
        Calls.due("26 BAD", "run(-2)=BAD run(8)=BAD run(LOW)=BAD run(HIGH)=BAD");
        Calls.due("26 FULL: more than 6", seven + "run(-1..7)=FULL");
        Calls.due("26 FULL: 8", seven.replace("1@0]", "1r@0]") + "run(-1..7)=FULL");
        Calls.due("26 BAD ahead of FULL", seven + "run(8)=BAD run(-2)=BAD");
        Calls.due("26 FULL ahead of NONE", seven + "run(7)=FULL give(6)=10 run(7)=NONE run(6)=NONE run(5)=5");
        Calls.due("26 NONE: there is no i-th", seven + "give(0..5) run(0..7)=6,NONE,NONE,NONE,NONE,NONE,NONE,NONE run(-1)=1");
    }

    private static void hands() {
        String shop = "shop[C,C,C;10@0,3@0,4@1,9] ";
        Calls.due("27 BAD: no such bag", shop + "hands(3,0,0)=BAD hands(-1,0,0)=BAD hands(0,3,0)=BAD hands(0,-1,0)=BAD hands(LOW,0,0)=BAD hands(0,HIGH,0)=BAD");
        Calls.due("27 BAD: one alike", shop + "hands(0,0,0..1)=BAD hands(2,2,0..1)=BAD");
        Calls.due("27 BAD: what", shop + "hands(0,1,-1)=BAD hands(0,1,2)=BAD hands(0,1,LOW)=BAD hands(0,1,HIGH)=BAD");
        Calls.due("27 BAD: but one bag", "bag(0) hands(0,1,0)=BAD hands(1,0,0)=BAD bag(0) hands(0,1,0)=1");
        Calls.due("27 no step", shop + "hands(0,1,0..1)=1,0 way[.] step() hands(0,1,0..1)=1,0");
        Calls.due("27 one step: the more of both", shop + "way[.] hands(0,1,0..1)=1,13 hands(1,0,0..1)=1,13");
        Calls.due("27 two steps: both alike", shop + "way[..] hands(0,1,0..1)=1,17");
        Calls.due("27 of like ones the least n: empty bags", "shop[P,P;1] way[...] hands(0,1,0..1)=1,0");
        Calls.due("27 of like ones the least n: as heavy", "shop[P,P;5@0,5@1] way[...] hands(0,1,0..1)=1,15");
        Calls.due("27 20 steps", "shop[P,P;30@0,30@0,1@1] " + TWENTY_FLAT + " hands(0,1,0..1)=1,610 hands(1,0,0..1)=1,610");
        Calls.due("27 19 steps", "shop[P,P;30@0,30@0,1@1] way[...................] hands(0,1,0..1)=1,609");
        Calls.due("27 most", "shop[P,P;30@0,30@0,30@0,30@0,30@1,30@1,30@1,30@1] " + TWENTY_FLAT + " hands(0,1,1)=2400");
        Calls.due("27 from the step on", shop + "way[.....] hands(0,1,1)=47 step() hands(0,1,1)=34 3*step() hands(0,1,1)=13");
        Calls.due("27 by weight, not by worth", "way[...] 2*bag(3) thing(10,0,0,3,0) thing(4,0,0,99,0) pack(0,0) pack(1,1) hands(0,1,0..1)=1,24");
        Calls.due("27 by what is in them now", shop + "way[...] hands(0,1,1)=30 give(0) hands(0,1,1)=11");
    }

    private static void torn() {
        String shop = "way[b.d] shop[C,C;30@0,1,2@1] ";
        Calls.due("28 BAD: bag", shop + "torn(2,1,0)=BAD torn(-1,1,0)=BAD torn(LOW,1,0)=BAD torn(HIGH,1,0)=BAD");
        Calls.due("28 BAD: what", shop + "torn(0,1,-1)=BAD torn(0,1,2)=BAD torn(0,1,LOW)=BAD torn(0,1,HIGH)=BAD");
        Calls.due("28 BAD: no things", shop + "torn(0,0,0..1)=BAD");
        Calls.due("28 BAD: things that there are not", shop + "torn(0,7,0)=0 torn(0,8,0)=BAD torn(0,9,0)=BAD torn(0,256,0)=BAD torn(0,-1,0)=BAD torn(0,LOW,0)=BAD torn(0,HIGH,0)=BAD");
        Calls.due("28 BAD: beyond 8 things", "shop[C;1,1,1,1,1,1,1,1] torn(0,255,0)=0 torn(0,256,0)=BAD torn(0,257,0)=BAD torn(0,511,0)=BAD");
        Calls.due("28 NONE: there is none", shop + "torn(0,1,0)=0 torn(0,1,1)=NONE torn(0,2,0..1)=0,NONE torn(1,1,0..1)=0,NONE");
        Calls.due("28 how many jolts: 0 .. 8", "way[b]" + CLOTH + "set(0,1,48) torn(0,1,0)=0 set(0,1,49) torn(0,1,0..1)=1,0 set(0,1,52) torn(0,1,0)=2 set(0,1,55) torn(0,1,0)=3",
            "set(0,1,58) torn(0,1,0)=4 set(0,1,61) torn(0,1,0)=5 set(0,1,64) torn(0,1,0)=6 set(0,1,67) torn(0,1,0)=7 set(0,1,70) torn(0,1,0..1)=8,0");
        Calls.due("28 the least step: the first", "way[.b]" + CLOTH + "set(0,1,70) torn(0,1,0..1)=8,0");
        Calls.due("28 the least step: the last of 20", TWENTY_FLAT + CLOTH + "set(0,1,51) torn(0,1,0..1)=8,19 set(0,1,50) torn(0,1,0..1)=0,NONE");
        Calls.due("28 the least step of all jolts", "way[..b..d]" + CLOTH + "set(0,1,56) torn(0,1,0..1)=8,2 set(0,1,55) torn(0,1,0..1)=3,2 set(0,1,49) torn(0,1,0..1)=1,2");
        Calls.due("28 at home", "way[.]" + CLOTH + "step() set(0,1,999) torn(0,1,0..1)=0,NONE");
    }

    private static void tornFalls() {
        Calls.due("28 just these: all of the bag", "way[.] shop[C;30@0,1@0,1] set(0,1,99) torn(0,3,0..1)=8,0 torn(0,1,0..1)=0,NONE torn(0,2,0)=0 torn(0,7,0)=0");
        Calls.due("28 by the last handle, not by the first", "way[...] shop[P;30@0] set(0,1,45) torn(0,1,0..1)=8,1");
        Calls.due("28 by the corner the least", "way[.] shop[T;1,1e4@0,2@0] set(0,1,15) torn(0,2,0..1)=8,0 torn(0,4,0)=0 torn(0,6,0)=0");
        Calls.due("28 as the first that fall of it", "way[........] shop[T;1e4@0,20@0] set(0,1,15) step()=1 torn(0,2,0..1)=8,6 undo() torn(0,2,0..1)=0,NONE torn(0,1,0..1)=8,0");
        Calls.due("28 of it, whatever falls of others", "way[..] shop[C,C;30@0,30@1] set(0,1,70) set(1,1,69) torn(1,2,0..1)=8,1 torn(0,1,0..1)=8,0 torn(0,3,0)=0");
        Calls.due("28 one and the same jolt in each bus", "way[bb]" + CLOTH + "set(0,1,48) torn(0,1,0..1)=1,1");
        Calls.due("28 nothing falls on a bench", "way[s.]" + CLOTH + "set(0,1,999) torn(0,1,0..1)=8,1");
        Calls.due("28 the corner by a weak jolt, the bottom by a strong one", "way[b.] shop[T;29@0,1e5@0] set(0,1,12) torn(0,3,0..1)=6,0 torn(0,1,0..1)=2,0");
    }
}
