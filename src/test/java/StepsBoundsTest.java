/** The boundary cases of promises 16 to 19, 29 and 30: steps, steps undone, images. */
public final class StepsBoundsTest {
    private static final String TWENTY_FLAT = "way[....................]";

    public static void main(String[] args) {
        home();
        wetAndWear();
        forceAndStrength();
        whichGives();
        whatFalls();
        bench();
        jolts();
        draw();
        drawnWhen();
        undo();
        undoWhat();
        undoNothingLeft();
        again();
        seed();
        image();
        restore();
        imageOfThePast();
        Check.end("StepsBoundsTest");
    }

    private static void home() {
        Calls.due("16 NOT: no way", "step()=NOT count(3)=0 count(5)=0");
        Calls.due("16 NOT: home, behind one step", "way[.] step()=0 step()=NOT count(3)=1 count(5)=1");
        Calls.due("16 NOT: home, behind 20 steps", TWENTY_FLAT + " 20*step()=0 step()=NOT step()=NOT count(3)=20 count(5)=8");
        Calls.due("16 NOT changes nothing", "way[b] shop[C;1w1e1@0] step()=0 step()=NOT of(0,1..2)=1,2 seed(5)=1103527590");
        Calls.due("16 no more home by again", "way[.] step() again()=1 step()=0 step()=NOT");
        Calls.due("16 no more home by a step undone", "way[.] step() undo()=0 step()=0 step()=NOT");
        Calls.due("16 without bags and things", "way[.udbs] 5*step()=0 count(3)=5");
        Calls.due("16 the step is one more", "way[.u] count(3)=0 step() count(3)=1 step() count(3)=2");
    }

    private static void wetAndWear() {
        Calls.due("16 wet by damp of all, wear by 1 and edges of all", "way[.] shop[C;1w5e5@0,1w2e1@0,1w5e5] step()=0 of(0,1..2)=7,7");
        Calls.due("16 a bag that holds nothing stays", "way[..] shop[P,P;1w5e5] set(0,0,3) set(0,1,4) 2*step()=0 of(0,1..2)=3,4 of(1,1..2)=0");
        Calls.due("16 a bag of which all fell stays", "way[..] shop[P;30w1@0] set(0,0,40) step()=1 of(0,1..2)=41,1 step()=0 of(0,1..2)=41,1");
        Calls.due("16 wet is 999 at most", "way[...] shop[C;1w5@0] set(0,0,993) step()=0 of(0,1)=998 step()=0 of(0,1)=999 step()=0 of(0,1)=999");
        Calls.due("16 wet is just 999", "way[..] shop[C;1w5@0] set(0,0,994) step()=0 of(0,1)=999 step()=0 of(0,1)=999");
        Calls.due("16 wear is 999 at most", "way[..] shop[C;1@0] set(0,1,998) step()=1 of(0,2)=999 undo() set(0,1,999) step()=1 of(0,2)=999");
        Calls.due("16 wear by edges is 999 at most", "way[..] shop[C;1e5@0] set(0,1,997) step()=1 of(0,2)=999");
        Calls.due("16 on a bench wet and wear are 999 at most", "way[sss] shop[C;1w5@0] set(0,0,997) set(0,1,996) step()=0 of(0,1..2)=999,998 step()=0 of(0,1..2)=999 step()=0 of(0,1..2)=999");
        Calls.due("16 most of both by one step", "way[.] shop[D;1w5e5@0,1w5e5@0,1w5e5@0,1w5e5@0,1w5e5@0,1w5e5@0,1w5e5@0,1w5e5@0] step() of(0,1..2)=40,41");
        Calls.due("16 a bag is wetter and more worn ahead of what gives", "way[.] shop[P;30w1@0] set(0,0,29) set(0,1,0) step()=1 of(0,1..3)=30,1,1");
    }

    /** What is as strong as the force holds; one less, and it gives. */
    private static void forceAndStrength() {
        Calls.due("16 bottom: 30 on 30 holds", "way[.] shop[T;30@0] set(0,1,19) step()=0 strength(0,0)=30 of(0,3)=0");
        Calls.due("16 bottom: 30 on 29 gives", "way[.] shop[P;30@0] set(0,0,30) step()=1 strength(0,0)=29 of(0,3)=1");
        Calls.due("16 bottom: 30 on 31 holds", "way[.] shop[P;30@0] set(0,0,29) step()=0 strength(0,0)=31");
        Calls.due("16 handle: 15 on 15 holds", "way[.] shop[P;30@0] set(0,1,44) step()=0 strength(0,1)=15 of(0,3)=0");
        Calls.due("16 handle: 15 on 14 gives", "way[.] shop[P;30@0] set(0,1,45) step()=0 strength(0,1)=14 of(0,3)=2");
        Calls.due("16 last handle: 30 on 30 holds", "way[..] shop[P;30@0] set(0,1,45) step()=0 set(0,1,29) step()=0 strength(0,2)=30 of(0,3)=2");
        Calls.due("16 last handle: 30 on 29 gives", "way[..] shop[P;30@0] set(0,1,45) step()=0 set(0,1,30) step()=1 strength(0,2)=29 of(0,3)=6");
        Calls.due("16 corner: 12 on 12 holds", "way[.] shop[T;1e4@0] set(0,1,14) step()=0 strength(0,3)=12 of(0,3)=0");
        Calls.due("16 corner: 12 on 10 gives", "way[.] shop[T;1e4@0] set(0,1,15) step()=1 strength(0,3)=10 of(0,3)=8");
        Calls.due("16 0 on 0 holds", "way[.] shop[C;1@0] set(0,1,999) step()=1 of(0,3)=1 shop[C;1@0] again() strength(0,3)=80 set(0,1,85) step()=0 strength(0,3)=0 of(0,3)=0");
    }

    private static void whichGives() {
        Calls.due("16 bottom ahead of handles and corner", "way[.] shop[T;30e5@0] set(0,1,30) step()=1 of(0,3)=1");
        Calls.due("16 handle ahead of corner", "way[.] shop[P;30e5@0] set(0,1,54) step()=0 force(0,0..3,0)=30,30,30,15 of(0,3)=2");
        Calls.due("16 the first handle ahead of the other", "way[..] shop[P;30@0] set(0,1,45) step()=0 of(0,3)=2 set(0,1,45) step()=1 of(0,3)=6");
        Calls.due("16 but one place of a bag in a step", "way[..] shop[P;30@0] set(0,1,55) step()=0 of(0,3)=2 step()=1 of(0,3)=6");
        Calls.due("16 a corner that is gone gives no more", "way[...] shop[T;1e4@0,2e4@0] set(0,1,10) step()=1 of(0,3)=8 step()=0 of(0,3..4)=8,2");
        Calls.due("16 handles that are gone bear nothing, the bottom bears all", "way[...] shop[P;30@0] set(0,1,45) 2*step()=0,1 step()=0 of(0,3)=6");
        Calls.due("16 one place of each bag in a step", "way[.] shop[P,T,C;30@0,1e4@1,30@2] set(0,0,40) set(1,1,15) set(2,1,70) step()=7 of(0..2,3)=1,8,1");
    }

    private static void whatFalls() {
        Calls.due("16 by the bottom all things of the bag", "way[.] shop[P,C;30@0,1,2@0,3@1,4@0] set(0,0,40) step()=21 told(0..4,5)=10,3,10,1,10");
        Calls.due("16 by the first handle nothing", "way[.] shop[P;30@0] set(0,1,45) step()=0 count(4)=0");
        Calls.due("16 by the last handle all things of the bag", "way[..] shop[P;30@0,2@0,1] set(0,1,45) 2*step()=0,3 told(0..2,5)=11,11,3");
        Calls.due("16 by the corner the least by numbers, not by weight", "way[.] shop[T,C;1,2@1,9e4@0,1@0,5@0] set(0,1,15) step()=4 of(0,4)=24 told(2,5)=10");
        Calls.due("16 by the corner the only one", "way[..] shop[T;1e4@0] set(0,1,15) step()=1 of(0,4)=0 step()=0 of(0,2)=20 pack(0,0)=10");
        Calls.due("16 the eighth thing", "way[.] shop[C;1,1,1,1,1,1,1,1@0] set(0,1,99) step()=128");
        Calls.due("16 all eight of three bags", "way[.] shop[C,C,C;1@0,1@1,1@2,1@0,1@1,1@2,1@0,1@1] set(0..2,1,99) step()=255 count(4)=8");
        Calls.due("16 on the ground at that step: the first", "way[.] shop[C;1@0] set(0,1,99) step()=1 told(0,5)=10");
        Calls.due("16 on the ground at that step: the last of 20", TWENTY_FLAT + " shop[C;1@0] 19*step()=0 set(0,1,99) step()=1 told(0,5)=29");
        Calls.due("16 what lies on the ground falls no more", "way[..] shop[C;1@0] set(0,1,99) 2*step()=1,0 told(0,5)=10");
    }

    private static void bench() {
        Calls.due("16 on a bench nothing gives", "way[s] shop[P,T,C;30e5@0,30e5@1,30e5@2] set(0..2,0..1,999) step()=0 of(0..2,3)=0 count(4)=0");
        Calls.due("16 behind the bench it gives", "way[s.] shop[P;30@0] set(0,0,999) 2*step()=0,1");
        Calls.due("16 on a bench wear by 2, without edges", "way[s] shop[C;1e5@0,1e3@0] step()=0 of(0,2)=2");
        Calls.due("16 on a bench a bag that holds nothing stays", "way[s] shop[C;1] step()=0 of(0,1..2)=0");
        Calls.due("16 a bench draws nothing", "way[s] step() seed(1)=1");
    }

    private static void jolts() {
        String shop = " shop[C;30@0] ";
        Calls.due("16 FLAT: jolt 0", "way[.]" + shop + "set(0,1,69) step()=0 again() set(0,1,70) step()=1");
        Calls.due("16 UP: jolt 2", "way[u]" + shop + "set(0,1,63) step()=0 again() set(0,1,64) step()=1");
        Calls.due("16 DOWN: jolt 3", "way[d]" + shop + "set(0,1,60) step()=0 again() set(0,1,61) step()=1");
        Calls.due("16 BUS: jolt 6 by the first draw of all", "way[b]" + shop + "set(0,1,51) step()=0 again() seed(1) set(0,1,52) step()=1");
        Calls.due("16 all bags have one jolt", "way[b] shop[C,C,C;30@0,30@1,30@2] set(0..2,1,51) step()=0 seed(1)=1103527590 again() set(0..2,1,52) step()=7");
    }

    /** The jolt that a bus has by a draw, seen by how worn a bag gives. */
    private static int joltBy(int seed) {
        int jolt = -1;
        for (int least = 0; least < 8; least++) {
            TornBag x = Check.walk("b", "C;30@0");
            x.seed(seed);
            x.set(0, 1, 70 - 3 * least);
            if (x.step() == 1) jolt++;
        }
        return jolt;
    }

    private static long drawnFrom(long v) {
        return v * 1103515245L + 12345L & 0x7fffffffL;
    }

    private static void draw() {
        int[] seeds = {0, 1, 2, 3, 7, 8, 255, 65535, 65536, 12345, 1103515245, 1 << 30, (1 << 30) - 1, Integer.MAX_VALUE, Integer.MAX_VALUE - 1};
        int seen = 0;
        for (int seed : seeds) {
            int due = (int) (drawnFrom(seed) / 65536 % 8);
            Check.due("16 jolt by the draw " + seed, joltBy(seed), due);
            seen |= 1 << due;
            TornBag x = Check.walk("b", "C;30@0");
            x.seed(seed);
            x.step();
            Check.due("16 the draw behind " + seed, x.seed(0), drawnFrom(seed));
        }
        for (int seed = 0; seen != 255 && seed < 100; seed++) {
            int due = (int) (drawnFrom(seed * 20011L) / 65536 % 8);
            if ((seen >> due & 1) == 0) Check.due("16 jolt " + due, joltBy(seed * 20011), due);
            seen |= 1 << due;
        }
        Check.due("16 all jolts 0 .. 7 are drawn", seen, 255);
    }

    private static void drawnWhen() {
        Calls.due("16 1 at first", "seed(0)=1");
        Calls.due("16 drawn for a bus", "way[b] step() seed(0)=1103527590");
        Calls.due("16 drawn for a bus alone", "way[.uds] 4*step() seed(0)=1");
        Calls.due("16 drawn once, whatever bags there are", "way[b] shop[P,P,P;1@0,1@1,1@2] step() seed(0)=1103527590");
        Calls.due("16 drawn for what falls in it, not for what comes", "way[bb] shop[P;1@0] holds(7) odds(0) packing(-1) leave(0) torn(0,1,0) sheet(0,0,9) film(7,0,0,0) seed(1)=1");
        Calls.due("16 drawn anew at each bus", "way[bb] 2*step() seed(0)=" + drawnFrom(1103527590));
    }

    private static void undo() {
        Calls.due("17 NONE: none is known", "undo()=NONE way[.] undo()=NONE step() undo()=0 undo()=NONE");
        Calls.due("17 how many more may be", "way[...] 3*step() 3*undo()=2,1,0 undo()=NONE count(3)=0");
        Calls.due("17 8 are known", "way[........] 8*step() 8*undo()=7,6,5,4,3,2,1,0 undo()=NONE count(3)=0");
        Calls.due("17 the 9th is lost", "way[.........] 9*step() 8*undo()=7,6,5,4,3,2,1,0 undo()=NONE count(3)=1");
        Calls.due("17 of 20 the first 12 are lost", TWENTY_FLAT + " shop[D;1w1@0] 20*step()=0 8*undo()=7,6,5,4,3,2,1,0 undo()=NONE count(3)=12 of(0,1..2)=12");
        Calls.due("17 a step that was refused is none", "way[.] step() step()=NOT count(5)=1 undo()=0 undo()=NONE");
        Calls.due("17 steps, some undone, and steps again", "way[..........] shop[D;1w1@0] 8*step() 3*undo()=7,6,5 5*step()=0 count(5)=8 8*undo()=7,6,5,4,3,2,1,0 undo()=NONE count(3)=2 of(0,1)=2");
        Calls.due("17 also from step 0, behind again", "way[..] 2*step() again()=2 undo()=1 count(3)=1");
        Calls.due("17 undone is no step", "way[.] step() undo()=0 undo()=NONE");
    }

    private static void undoWhat() {
        String setup = "way[b.] shop[P,C;30w1@0,2@1,3] set(0,0,40) step()=1 ";
        Calls.due("17 bags: wet, wear, places", setup + "of(0,1..3)=41,1,1 undo()=0 of(0,1..3)=40,0,0 of(0,4)=1");
        Calls.due("17 things: where they are", setup + "pack(0,1)=10 give(1)=1 pack(2,1)=3 undo()=0 told(0..2,5)=0,1,3");
        Calls.due("17 the step", setup + "count(3)=1 undo()=0 count(3)=0");
        Calls.due("17 the draw, as ahead of it", setup + "undo()=0 seed(1)=1");
        Calls.due("17 whatever was done since: set, seed, again", setup + "set(0..1,0..1,77) seed(9) again() undo()=0 of(0..1,1)=40,0 of(0..1,2)=0 count(3)=0 seed(1)=1");
        Calls.due("17 as it was set ahead of the step", "way[.] shop[C;1@0] seed(5) set(0,0,9) step() undo()=0 of(0,1)=9 seed(1)=5");
        Calls.due("17 sheets, the tape, the image stay", setup + "sheet(0,0,3) image() type(46) undo()=0 drop(0)=3 type(46)=2 restore()=1 count(3)=1");
        Calls.due("17 the way stays", setup + "undo()=0 count(2)=2 sort(0..1)=3,0");
        Calls.due("17 pack and give alone are no steps", "way[.] shop[C;1] pack(0,0) give(0) set(0,0,1) seed(3) again() undo()=NONE");
    }

    private static void undoNothingLeft() {
        Calls.due("17 a way leaves nothing", "way[..] 2*step() way[..] count(5)=0 undo()=NONE");
        Calls.due("17 a shop leaves nothing", "way[..] 2*step() shop[P;1] count(5)=0 undo()=NONE count(3)=2");
        Calls.due("17 a new bag leaves nothing", "way[..] 2*step() bag(0)=0 count(5)=0 undo()=NONE");
        Calls.due("17 a new thing leaves nothing", "way[..] 2*step() thing(1,0,0,0,0)=0 count(5)=0 undo()=NONE");
        Calls.due("17 faults leave it", "way[..] 2*step() way[x]=-20 shop[x]=-20 count(5)=2 undo()=1");
        Calls.due("17 BAD leaves it", "way[..] 2*step() bag(4)=BAD thing(0,0,0,0,0)=BAD count(5)=2 undo()=1");
        Calls.due("17 FULL leaves it", "way[..] shop[P,P,P;1,1,1,1,1,1,1,1] 2*step() bag(0)=FULL thing(1,0,0,0,0)=FULL count(5)=2 undo()=1");
        Calls.due("17 from then on 8 are known anew", "way[..........] 5*step() bag(0) 5*step() count(5)=5 5*undo()=4,3,2,1,0 undo()=NONE count(3)=5");
    }

    private static void again() {
        Calls.due("18 at the first step", "again()=0 way[..] again()=0 count(3)=0");
        Calls.due("18 at home", TWENTY_FLAT + " 20*step() again()=20 count(3)=0 again()=0");
        Calls.due("18 places, wet, wear stay", "way[..] shop[P;30w1@0] set(0,0,40) 2*step() again()=2 of(0,1..3)=41,1,1");
        Calls.due("18 things on the ground stay there", "way[..] shop[P;30@0] step() set(0,0,40) step()=1 again()=2 told(0,5)=11 count(4)=1");
        Calls.due("18 what may be undone stays", "way[..] 2*step() again() count(5)=2 2*undo()=1,0 count(3)=0");
        Calls.due("18 the draw stays", "way[b] step() again()=1 seed(0)=1103527590");
        Calls.due("18 all may be gone again", "way[.] shop[C;1@0] step() again() step()=0 of(0,2)=2 step()=NOT");
    }

    private static void seed() {
        Calls.due("19 BAD: below 0", "seed(-1)=BAD seed(LOW)=BAD seed(1)=1");
        Calls.due("19 0 and the most of 31 bits", "seed(0)=1 seed(HIGH)=0 seed(1)=2147483647");
        Calls.due("19 from 0", "seed(0) way[b] step() seed(1)=12345");
        Calls.due("19 from the most", "seed(HIGH) way[b] step() seed(1)=" + drawnFrom(Integer.MAX_VALUE));
    }

    private static void image() {
        Calls.due("29 of a new object", "image()=1 way[..] shop[P;1] step() restore()=1 count(0..6)=0 seed(1)=1");
        Calls.due("29 the later one is kept", "bag(0) image()=1 bag(0) image()=1 bag(0) restore()=1 count(0)=2");
        Calls.due("29 it changes nothing", "way[b.] shop[P;1w1@0] step() type(46) sheet(1,1,4) image()=1 count(0..6)=1,1,2,1,0,1,0 of(0,1)=1 type(46)=2 drop(1)=4");
        Calls.due("29 sheets are not in it", "sheet(0,0,3) image() drop(0)=3 sheet(1,1,5) restore()=1 drop(0)=NULL drop(1)=5");
        Calls.due("29 the tape is not in it", "type(46) image() type(46) restore()=1 type(46)=3 way()=3");
        Calls.due("29 an empty tape is not in it", "image() type(46) restore()=1 type(46)=2");
    }

    private static void restore() {
        Calls.due("30 NONE: there is none", "restore()=NONE bag(0) restore()=NONE count(0)=1");
        Calls.due("30 as often as one likes", "bag(0) image() bag(0) restore()=1 count(0)=1 bag(0) bag(0) restore()=1 count(0)=1 restore()=1");
        Calls.due("30 what is done then leaves the image", "way[...] shop[P;30w1@0] image() set(0,0,40) step()=1 restore()=1 of(0,1..3)=0 step()=0 restore()=1 of(0,1..3)=0 told(0,5)=0");
        Calls.due("30 kinds, what things are, where they are", "way[.] shop[T,C;30w1e2r@0,4] set(0,1,30) step()=1 image() shop[P;1@0] restore()=1",
            "of(0..1,0)=2,3 told(0,0..5)=30,1,2,30,1,10 told(1,0..5)=4,0,0,4,0,3 of(0,1..3)=1,33,1");
        Calls.due("30 weight and worth apart", "bag(0) thing(9,1,2,70,1) image() shop[D;3@0] restore()=1 told(0,0..5)=9,1,2,70,1,3 of(0,0)=0");
        Calls.due("30 the way, the step, the draw", "way[bu] step() image() way[ddd] seed(3) restore()=1 count(2..3)=2,1 sort(0..2)=3,1,BAD seed(1)=1103527590");
        Calls.due("30 bags and things that came since are none", "shop[P;1] image() bag(0) thing(2,0,0,0,0) restore()=1 of(1,0)=BAD told(1,0)=BAD bag(3)=1 of(1,0)=3 thing(9,0,0,0,0)=1 told(1,0)=9");
    }

    private static void imageOfThePast() {
        Calls.due("30 steps that may be undone, as then", "way[...] 2*step() image() undo() undo() restore()=1 count(5)=2 2*undo()=1,0 undo()=NONE count(3)=0");
        Calls.due("30 steps since are none", "way[...] step() image() 2*step() restore()=1 count(5)=1 count(3)=1 undo()=0 undo()=NONE");
        Calls.due("30 also behind a way, which leaves nothing", "way[...] 2*step() image() way[.] undo()=NONE restore()=1 count(5)=2 undo()=1 count(3)=1");
        Calls.due("30 none, as then", "way[...] image() 2*step() restore()=1 undo()=NONE");
        Calls.due("30 eight, of more, whatever came since",
            TWENTY_FLAT + " shop[D;1w1@0] 11*step() image() 5*undo() 3*step() seed(5) 6*step() restore()=1",
            "count(3)=11 8*undo()=7,6,5,4,3,2,1,0 undo()=NONE count(3)=3 of(0,1)=3 seed(0)=1");
        Calls each = Calls.due("30 each of the eight, as then",
            TWENTY_FLAT + " shop[D;1w1@0] 11*step() image() seed(5) 9*step() set(0,0,99) undo()=7 restore()=1 count(5)=8");
        for (int s = 10; s >= 3; s--) each.go("undo()=" + (s - 3) + " count(3)=" + s + " of(0,1..2)=" + s + " seed(1)=1");
    }
}
