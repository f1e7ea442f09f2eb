/** The boundary cases of promises 1 to 15, and of what section 1 of the terms says of bags, things and texts. */
public final class BagsBoundsTest {
    private static final String EIGHT = "P;1,2,3,4,5,6,7,8";

    public static void main(String[] args) {
        newObject();
        bag();
        thing();
        thingRanges();
        pack();
        packInto();
        give();
        of();
        strengthOfPaper();
        strengthOfThin();
        strength();
        force();
        told();
        set();
        type();
        way();
        wayFaults();
        shop();
        shopRanges();
        shopFaults();
        sort();
        count();
        Check.end("BagsBoundsTest");
    }

    private static void newObject() {
        Calls.due("1 no bag", "count(0)=0 of(0..2,0..6)=BAD strength(0..2,0..3)=BAD force(0..2,0..3,0)=BAD set(0..2,0..1,0)=BAD");
        Calls.due("1 no thing", "count(1)=0 told(0..7,0..5)=BAD give(0..7)=BAD pack(0,0)=BAD rolls(0..7)=BAD");
        Calls.due("1 no way", "count(2..3)=0 sort(0)=BAD step()=NOT again()=0 count(6)=0");
        Calls.due("1 nothing is to be undone, nothing on the ground", "count(4..5)=0 undo()=NONE");
        Calls.due("1 no image", "restore()=NONE");
        Calls.due("1 the tape is empty", "way()=-20 shop()=-20 type(46)=1");
        Calls.due("1 no sheet", "drop(0..3)=NULL");
        Calls.due("1 the draw is 1", "seed(1)=1");
        Calls.due("1 it holds, for nothing gives", "holds(0..7)=NONE odds(0..1)=1 doubled()=NONE leave(0..1)=0");
        Calls.due("1 nothing to run after", "run(-1)=0 run(0..7)=NONE");
        Calls.due("1 without bags", "packing(-1)=BAD hands(0,1,0)=BAD torn(0,1,0)=BAD sagged(0,0,0,0,1,0)=BAD");
        Calls.due("1 a film of no step", "film(0,0,0,0)=NULL sheet(0,0,0)=0 film(0,0,0,0)=0");
    }

    private static void bag() {
        Calls.due("2 kinds 0 .. 3", "bag(0..2)=0,1,2 of(0..2,0)=0,1,2").go("shop[P;1] bag(3)=1 of(1,0)=3");
        Calls.due("2 BAD: no kind", "bag(-1)=BAD bag(4)=BAD bag(LOW)=BAD bag(HIGH)=BAD count(0)=0");
        Calls.due("2 FULL: 3", "3*bag(1)=0,1,2 bag(1)=FULL count(0)=3");
        Calls.due("2 FULL behind a shop of 3", "shop[P,P,P;1]=1 bag(0)=FULL");
        Calls.due("2 BAD ahead of FULL", "3*bag(1) bag(4)=BAD bag(-1)=BAD");
        Calls.due("2 wet and worn are 0, all places whole at first", "bag(3)=0 of(0,1..6)=0");
        Calls.due("2 a new one has nothing of one that was there",
            "way[..] shop[P,P,P;30@2] set(2,0,40) step()=1 set(2,1,30) of(2,1..3)=40,30,1 shop[P;1] bag(0)=1 bag(2)=2 of(2,1..6)=0");
        Calls.due("2 the others stay as they are", "bag(3)=0 set(0,0,9) set(0,1,8) bag(1)=1 set(1,0,7) set(1,1,6) bag(2)=2 of(0,0..2)=3,9,8 of(1,0..2)=1,7,6 of(2,0..2)=2,0,0");
        Calls.due("2 however many things there are", "8*thing(1,0,0,0,0) bag(0..2)=0,1,2 bag(0)=FULL pack(7,2)=3");
        Calls.due("2 it holds nothing of what is nowhere or on the ground", "way[.] shop[P;30@0,5] set(0,0,40) step()=1 bag(0)=1 of(1,4)=0");
    }

    private static void thing() {
        Calls.due("3 nowhere yet", "thing(1,0,0,0,0)=0 told(0,5)=3");
        Calls.due("3 FULL: 8", "8*thing(1,0,0,0,0)=0,1,2,3,4,5,6,7 thing(1,0,0,0,0)=FULL count(1)=8");
        Calls.due("3 FULL behind a shop of 8", "shop[" + EIGHT + "]=8 thing(1,0,0,0,0)=FULL");
        Calls.due("3 the eighth behind a shop of 7", "shop[P;1,2,3,4,5,6,7]=7 thing(1,0,0,0,0)=7 thing(1,0,0,0,0)=FULL");
        Calls.due("3 BAD ahead of FULL", "8*thing(1,0,0,0,0) thing(0,0,0,0,0)=BAD thing(1,0,0,0,2)=BAD");
        Calls.due("3 the others stay where they are", "way[.] shop[P,C;30@0,2@1,3] set(0,0,40) step()=1 thing(4,0,0,0,0)=3 told(0..3,5)=10,1,3,3");
        Calls.due("3 a new one is nowhere, wherever one of its number was",
            "way[.] shop[P;30@0,1@0] set(0,0,40) step()=3 shop[P;1] thing(2,0,0,0,0)=1 told(1,5)=3 count(4)=0");
    }

    private static void thingRanges() {
        Calls.due("3 WEIGHT 1 .. 30", "thing(1,0,0,0,0)=0 thing(30,0,0,0,0)=1 told(0,0)=1 told(1,0)=30",
            "thing(0,0,0,0,0)=BAD thing(31,0,0,0,0)=BAD thing(-1,0,0,0,0)=BAD thing(LOW,0,0,0,0)=BAD thing(HIGH,0,0,0,0)=BAD");
        Calls.due("3 DAMP 0 .. 5", "thing(1,0,0,0,0)=0 thing(1,5,0,0,0)=1 told(0,1)=0 told(1,1)=5",
            "thing(1,-1,0,0,0)=BAD thing(1,6,0,0,0)=BAD thing(1,LOW,0,0,0)=BAD thing(1,HIGH,0,0,0)=BAD");
        Calls.due("3 EDGES 0 .. 5", "thing(1,0,0,0,0)=0 thing(1,0,5,0,0)=1 told(0,2)=0 told(1,2)=5",
            "thing(1,0,-1,0,0)=BAD thing(1,0,6,0,0)=BAD thing(1,0,LOW,0,0)=BAD thing(1,0,HIGH,0,0)=BAD");
        Calls.due("3 WORTH 0 .. 99", "thing(1,0,0,0,0)=0 thing(1,0,0,99,0)=1 told(0,3)=0 told(1,3)=99",
            "thing(1,0,0,-1,0)=BAD thing(1,0,0,100,0)=BAD thing(1,0,0,LOW,0)=BAD thing(1,0,0,HIGH,0)=BAD");
        Calls.due("3 isRound 0, 1", "thing(1,0,0,0,0)=0 thing(1,0,0,0,1)=1 told(0,4)=0 told(1,4)=1",
            "thing(1,0,0,0,-1)=BAD thing(1,0,0,0,2)=BAD thing(1,0,0,0,LOW)=BAD thing(1,0,0,0,HIGH)=BAD count(1)=2");
    }

    private static void pack() {
        String shop = "shop[P,T,C;1,2@0]";
        Calls.due("4 BAD: no such thing", shop + " pack(2,0)=BAD pack(-1,0)=BAD pack(8,0)=BAD pack(LOW,0)=BAD pack(HIGH,0)=BAD");
        Calls.due("4 BAD: no such bag", shop + " pack(0,3)=BAD pack(0,-1)=BAD pack(0,LOW)=BAD pack(0,HIGH)=BAD told(0,5)=3");
        Calls.due("4 BAD: a bag that is not there yet", "shop[P;1] pack(0,1)=BAD bag(0)=1 pack(0,1)=3");
        Calls.due("4 where it was: nowhere 3, a bag 0 .. 2", shop + " pack(0,0)=3 pack(0,1)=0 pack(0,2)=1 pack(0,2)=2 pack(0,0)=2");
        Calls.due("4 where it was: on the ground at the first step, 10", "way[.] shop[P,P;30@0] set(0,0,40) step()=1 pack(0,1)=10");
        Calls.due("4 where it was: on the ground at the last step, 29",
            "way[....................] shop[C,C;30@0] 19*step()=0 set(0,1,70) step()=1 told(0,5)=29 pack(0,1)=29 told(0,5)=1");
        Calls.due("4 the eighth thing, the third bag", "shop[P,P,P;1,2,3,4,5,6,7,8] pack(7,2)=3 of(2,4)=128 of(2,5)=8");
    }

    private static void packInto() {
        Calls.due("4 NOT: the bottom is gone", "way[.] shop[P;30@0,1] set(0,0,40) step()=1 of(0,3)=1 pack(1,0)=NOT pack(0,0)=NOT",
            "told(0..1,5)=10,3 of(0,4)=0");
        Calls.due("4 NOT: both handles are gone", "way[..] shop[P;30@0,1] set(0,1,50) 2*step()=0,1 of(0,3)=6 pack(1,0)=NOT told(1,5)=3");
        Calls.due("4 one handle is enough", "way[..] shop[P;30@0,1] set(0,1,50) step()=0 of(0,3)=2 pack(1,0)=3");
        Calls.due("4 no corner is needed", "way[.] shop[T;1e5@0,1] set(0,1,13) step()=1 of(0,3)=8 pack(1,0)=3 pack(0,0)=10");
        Calls.due("4 BAD ahead of NOT", "way[.] shop[P;30@0] set(0,0,40) step()=1 pack(1,0)=BAD pack(-1,0)=BAD");
        Calls.due("4 into a bag that is whole again by a step undone", "way[.] shop[P;30@0,1] set(0,0,40) step()=1 undo()=0 pack(1,0)=3");
    }

    private static void give() {
        Calls.due("5 BAD", "shop[P;1,2] give(2)=BAD give(-1)=BAD give(8)=BAD give(LOW)=BAD give(HIGH)=BAD");
        Calls.due("5 where it was: nowhere, a bag", "shop[P,P,P;1,2@0,3@1,4@2] give(0..3)=3,0,1,2 told(0..3,5)=3 of(0..2,4)=0");
        Calls.due("5 where it was: on the ground at the first step", "way[.] shop[P;30@0] set(0,0,40) step()=1 give(0)=10 told(0,5)=3 count(4)=0");
        Calls.due("5 where it was: on the ground at the last step",
            "way[....................] shop[C;30@0] 19*step()=0 set(0,1,70) step()=1 give(0)=29");
        Calls.due("5 it is a thing still", "shop[P;1] give(0)=3 count(1)=1 pack(0,0)=3");
    }

    private static void of() {
        Calls.due("6 BAD: no such bag", "shop[P,P;1] of(2,0..6)=BAD of(-1,0..6)=BAD of(3,0)=BAD of(LOW,0)=BAD of(HIGH,0)=BAD");
        Calls.due("6 BAD: what", "shop[P;1] of(0,-1)=BAD of(0,7)=BAD of(0,LOW)=BAD of(0,HIGH)=BAD");
        Calls.due("6 an empty bag", "shop[D;1] of(0,0..6)=1,0,0,0,0,0,0");
        Calls.due("6 all eight things", "shop[P;30@0,30@0,30@0,30@0,30@0,30@0,30@0,30@0] of(0,4..5)=255,240");
        Calls.due("6 sag is cut", "shop[P;1] set(0,0,5) set(0,1,4) of(0,6)=0 set(0,1,5) of(0,6)=1 set(0,1,14) of(0,6)=1 set(0,0,6) of(0,6)=2");
        Calls.due("6 most sag", "shop[P;1] set(0,0,999) set(0,1,999) of(0,1..2)=999 of(0,6)=199");
        Calls.due("6 places: corner, then bottom", "way[....] shop[T;1e5@0,30@0] set(0,1,12) step()=1 of(0,3)=8 set(0,1,19) step()=0",
            "set(0,1,20) step()=2 of(0,3)=9");
        Calls.due("6 places: corner, then both handles", "way[....] shop[P;1e5@0,1e5@0,1e5@0,1e5@0,1e5@0] step()=1 of(0,3)=8",
            "set(0,1,38) step()=0 of(0,3)=10 set(0,1,38) step()=30 of(0,3)=14");
    }

    /** PAPER has 90, less wear, less wet; DOUBLE 40 more than what it has, ahead of the cut at 0. */
    private static void strengthOfPaper() {
        Calls.due("7 paper: bottom, handles, corner", "bag(0) strength(0,0..3)=90,60,60,90");
        Calls.due("7 paper: wet, of the bottom twice", "bag(0) set(0,0,7) strength(0,0..3)=76,53,53,83");
        Calls.due("7 paper: wear once", "bag(0) set(0,1,7) strength(0,0..3)=83,53,53,83");
        Calls.due("7 paper: bottom just above 0", "bag(0) set(0,0,44) set(0,1,1) strength(0,0)=1 set(0,1,2) strength(0,0)=0 set(0,1,3) strength(0,0)=0");
        Calls.due("7 paper: handles just above 0", "bag(0) set(0,1,59) strength(0,1..2)=1 set(0,1,60) strength(0,1..2)=0 set(0,1,61) strength(0,1..2)=0");
        Calls.due("7 paper: corner just above 0", "bag(0) set(0,0,89) strength(0,3)=1 set(0,0,90) strength(0,3)=0 set(0,0,91) strength(0,3)=0");
        Calls.due("7 paper: 0 at least", "bag(0) set(0,0,999) set(0,1,999) strength(0,0..3)=0");
        Calls.due("7 double: 40 more", "bag(1) strength(0,0..3)=130,100,100,130 set(0,0,7) set(0,1,2) strength(0,0..3)=114,91,91,121");
        Calls.due("7 double: what is below 0 of paper counts", "bag(1) set(0,1,129) strength(0,0..3)=1,0,0,1 set(0,1,130) strength(0,0..3)=0",
            "set(0,1,131) strength(0,0..3)=0 set(0,1,99) strength(0,1..2)=1 set(0,1,100) strength(0,1..2)=0 set(0,0,15) strength(0,0)=0 strength(0,3)=15");
        Calls.due("7 double: 0 at least", "bag(1) set(0,0,999) set(0,1,999) strength(0,0..3)=0");
    }

    /** THIN has 70, less twice wear; CLOTH 30 and wear more than what it has, ahead of the cut at 0. */
    private static void strengthOfThin() {
        Calls.due("7 thin: corner 20 less", "bag(2) strength(0,0..3)=70,70,70,50");
        Calls.due("7 thin: wear twice, no wet", "bag(2) set(0,1,7) strength(0,0..3)=56,56,56,36 set(0,0,999) strength(0,0..3)=56,56,56,36");
        Calls.due("7 thin: just above 0", "bag(2) set(0,1,34) strength(0,0..3)=2,2,2,0 set(0,1,35) strength(0,0..3)=0 set(0,1,36) strength(0,0..3)=0");
        Calls.due("7 thin: corner just above 0", "bag(2) set(0,1,24) strength(0,3)=2 set(0,1,25) strength(0,3)=0 set(0,1,26) strength(0,3)=0");
        Calls.due("7 thin: 0 at least", "bag(2) set(0,1,999) strength(0,0..3)=0");
        Calls.due("7 cloth: wear once, no wet", "bag(3) strength(0,0..3)=100,100,100,80 set(0,1,7) set(0,0,999) strength(0,0..3)=93,93,93,73");
        Calls.due("7 cloth: what is below 0 of thin counts", "bag(3) set(0,1,99) strength(0,0..3)=1,1,1,0 set(0,1,100) strength(0,0..3)=0",
            "set(0,1,101) strength(0,0..3)=0 set(0,1,79) strength(0,3)=1 set(0,1,80) strength(0,3)=0 set(0,1,40) strength(0,0..3)=60,60,60,40");
        Calls.due("7 cloth: 0 at least", "bag(3) set(0,1,999) strength(0,0..3)=0");
    }

    private static void strength() {
        Calls.due("7 BAD: bag", "shop[P,P;1] strength(2,0)=BAD strength(-1,0)=BAD strength(LOW,0)=BAD strength(HIGH,0)=BAD");
        Calls.due("7 BAD: place", "bag(0) strength(0,-1)=BAD strength(0,4)=BAD strength(0,LOW)=BAD strength(0,HIGH)=BAD");
        Calls.due("7 as it is, gone or not", "way[.] shop[P;30@0] set(0,0,40) step()=1 of(0,3)=1 strength(0,0..3)=9,19,19,49");
        Calls.due("7 whatever it holds", "shop[P;30@0,30@0,30@0] strength(0,0..3)=90,60,60,90");
    }

    private static void force() {
        String shop = "way[...] shop[P;20e1@0,7e2@0,9]";
        Calls.due("8 BAD: bag", shop + " force(1,0,0)=BAD force(-1,0,0)=BAD force(LOW,0,0)=BAD force(HIGH,0,0)=BAD");
        Calls.due("8 BAD: place", shop + " force(0,-1,0)=BAD force(0,4,0)=BAD force(0,LOW,0)=BAD force(0,HIGH,0)=BAD");
        Calls.due("8 BAD: jolt", shop + " force(0,0..3,-1)=BAD force(0,0..3,8)=BAD force(0,0,LOW)=BAD force(0,0,HIGH)=BAD");
        Calls.due("8 jolts 0 .. 7, cut", shop + " force(0,0,0..7)=27,29,32,35,37,40,43,45");
        Calls.due("8 a handle of two, cut twice", shop + " force(0,1,0..7)=13,14,16,17,18,20,21,22 force(0,2,0..7)=13,14,16,17,18,20,21,22");
        Calls.due("8 the corner has no jolt", shop + " force(0,3,0..7)=9");
        Calls.due("8 a handle of one, whichever is asked", shop + " set(0,1,48) step()=0 of(0,3)=2 force(0,1..2,0)=27 force(0,1..2,7)=45");
        Calls.due("8 of a handle 0, if none is whole", shop + " set(0,1,48) 2*step()=0,3 of(0,3)=6 force(0,1..2,0..7)=0");
        Calls.due("8 an empty bag", "bag(0) force(0,0..3,0..7)=0");
        Calls.due("8 most", "shop[C;30e5@0,30e5@0,30e5@0,30e5@0,30e5@0,30e5@0,30e5@0,30e5@0] force(0,0..3,7)=408,204,204,120");
        Calls.due("8 least", "shop[C;1@0] force(0,0..3,7)=1,0,0,0");
        Calls.due("8 on a bottom that is gone, nothing being there", "way[.] shop[P;30@0] set(0,0,40) step()=1 force(0,0..3,7)=0");
    }

    private static void told() {
        Calls.due("9 BAD: thing", "shop[P;1,2] told(2,0..5)=BAD told(-1,0..5)=BAD told(8,0)=BAD told(LOW,0)=BAD told(HIGH,0)=BAD");
        Calls.due("9 BAD: what", "shop[P;1,2] told(0,-1)=BAD told(0,6)=BAD told(0,LOW)=BAD told(0,HIGH)=BAD");
        Calls.due("9 least", "thing(1,0,0,0,0) told(0,0..5)=1,0,0,0,0,3");
        Calls.due("9 most", "thing(30,5,5,99,1) told(0,0..5)=30,5,5,99,1,3");
        Calls.due("9 where: in a bag, nowhere, on the ground", "way[..] shop[P,P,P;1@2,1,30@1] step()=0 set(1,0,40) step()=4 told(0..2,5)=2,3,11");
        Calls.due("9 what it is stays, wherever it is", "way[.] shop[P;30w1e2r@0] set(0,0,40) step()=1 told(0,0..5)=30,1,2,30,1,10");
    }

    private static void set() {
        Calls.due("10 BAD: bag", "shop[P,P;1] set(2,0,0)=BAD set(-1,0,0)=BAD set(LOW,0,0)=BAD set(HIGH,0,0)=BAD");
        Calls.due("10 BAD: what", "bag(0) set(0,-1,0)=BAD set(0,2,0)=BAD set(0,LOW,0)=BAD set(0,HIGH,0)=BAD");
        Calls.due("10 WET 0 .. 999", "bag(0) set(0,0,999)=0 set(0,0,1000)=BAD set(0,0,-1)=BAD set(0,0,LOW)=BAD set(0,0,HIGH)=BAD set(0,0,0)=999 set(0,0,0)=0");
        Calls.due("10 WEAR 0 .. 999", "bag(0) set(0,1,999)=0 set(0,1,1000)=BAD set(0,1,-1)=BAD set(0,1,LOW)=BAD set(0,1,HIGH)=BAD set(0,1,0)=999 set(0,1,0)=0");
        Calls.due("10 of one bag, of one kind", "3*bag(0) set(1,0,5)=0 set(1,1,6)=0 of(0..2,1)=0,5,0 of(0..2,2)=0,6,0");
        Calls.due("10 places stay gone", "way[.] shop[P;30@0] set(0,0,40) step()=1 set(0,0,0)=40 of(0,3)=1");
    }

    private static void type() {
        Calls.due("11 BAD: not 32 .. 126", "type(31)=BAD type(127)=BAD type(0)=BAD type(-1)=BAD type(LOW)=BAD type(HIGH)=BAD type(32)=1 type(126)=2");
        Calls.due("11 every letter", "type(32..126) type(32)=96");
        Calls.due("11 FULL: 100", "99*type(46) type(46)=100 type(46)=FULL type(46)=FULL");
        Calls.due("11 BAD ahead of FULL", "100*type(46) type(31)=BAD type(127)=BAD type(126)=FULL");
        Calls.due("11 what is refused is not typed", "99*type(32) type(127)=BAD type(31)=BAD way[.]=1");
        Calls.due("11 what is above 100 is not typed", "99*type(32) type(46)=100 type(46)=FULL way()=1 count(2)=1");
        Calls.due("11 empty behind a way, a shop, their faults", "way[.]=1 type(46)=1 way[x]=-21 type(80)=1 shop[;1]=1 type(80)=1 shop[x]=-21 type(46)=1");
    }

    private static void way() {
        Calls.due("12 one sign", "way[.]=1 count(2)=1 way[u]=1 sort(0)=1 way[d]=1 sort(0)=2 way[b]=1 sort(0)=3 way[s]=1 sort(0)=4");
        Calls.due("12 20 signs", "way[.udbs.udbs.udbs.udbs]=20 count(2)=20 sort(15..19)=0,1,2,3,4");
        Calls.due("12 in place of the way", "way[uuu]=3 way[d]=1 count(2)=1 sort(0)=2 sort(1)=BAD");
        Calls.due("12 the step is 0 then", "way[...] 2*step() count(3)=2 way[...]=3 count(3)=0 step()=0");
        Calls.due("12 nothing is to be undone then", "way[...] 2*step() count(5)=2 way[...] count(5)=0 undo()=NONE");
        Calls.due("12 the draw, bags and things stay", "way[b] shop[P,C;30w1@0,2@1] step() seed(7)=1103527590 of(0,1..2)=1 way[.]=1 seed(0)=7 of(0,1..2)=1 told(0..1,5)=0,1");
        Calls.due("12 what lies on the ground stays there", "way[..] shop[P;30@0] step() set(0,0,40) step()=1 way[.]=1 told(0,5)=11 count(4)=1");
        Calls.due("12 blanks count for nothing", "way[  .  u ]=2 sort(0..1)=0,1 99*type(32) type(98)=100 way()=1 sort(0)=3");
        Calls.due("12 20 signs and 80 blanks", "10*type(32) 20*type(117) 70*type(32) type(46)=FULL way()=20");
    }

    private static void wayFaults() {
        Calls.due("12 FAULT: no sign, the end", "way[]=-20 way[ ]=-21 way[     ]=-25 100*type(32) way()=-120");
        Calls.due("12 FAULT: the first letter that can't stand there", "way[x]=-20 way[.x]=-21 way[.xx]=-21 way[udbs.U]=-25 way[..0..]=-22");
        Calls.due("12 FAULT: behind blanks", "way[  x]=-22 way[.  x ]=-23");
        Calls.due("12 FAULT: the 21st sign", "21*type(46) way()=-40 20*type(46) 3*type(32) type(46) way()=-43 20*type(46) type(120) way()=-40");
        Calls.due("12 FAULT: at the last letter", "20*type(46) 79*type(32) type(46)=100 way()=-119");
        Calls.due("12 FAULT: letters beside the right ones", "way[-]=-20 way[/]=-20 way[a]=-20 way[c]=-20 way[e]=-20 way[r]=-20 way[t]=-20 way[v]=-20 way[,]=-20");
        Calls.due("12 FAULT: all stays", "way[ub.] shop[P;1@0] 2*step() way[ddx]=-22 count(2..5)=3,2,0,2 sort(0..2)=1,3,0 undo()=1");
        Calls.due("12 FAULT: the tape is empty then", "way[x]=-20 type(46)=1 way()=1");
    }

    private static void shop() {
        Calls.due("13 1 to 3 bags", "shop[P;1]=1 count(0)=1 shop[P,D;1]=1 count(0)=2 shop[T,C,P;1]=1 count(0)=3 of(0..2,0)=2,3,0");
        Calls.due("13 kinds in this order", "shop[P,D,T;1] of(0..2,0)=0,1,2 shop[C;1] of(0,0)=3");
        Calls.due("13 1 to 8 things", "shop[P;1]=1 count(1)=1 shop[" + EIGHT + "]=8 count(1)=8 told(0..7,0)=1,2,3,4,5,6,7,8");
        Calls.due("13 in place of all bags and things", "shop[P,P,P;" + EIGHT.substring(2) + "] shop[D;9]=1 count(0..1)=1 told(0,0)=9 told(1,0)=BAD of(1,0)=BAD");
        Calls.due("13 the bags are new ones", "way[.] shop[P;30@0] set(0,0,40) step()=1 shop[P;30@0]=1 of(0,0..6)=0,0,0,0,1,30,0 count(4)=0");
        Calls.due("13 nothing is to be undone then", "way[..] step() shop[P;1] count(5)=0 undo()=NONE");
        Calls.due("13 the way, the step and the draw stay", "way[b.] step() shop[P;1] count(2..3)=2,1 sort(0)=3 seed(1)=1103527590");
        Calls.due("13 WORTH is WEIGHT", "shop[P;1,30] told(0..1,3)=1,30");
        Calls.due("13 nothing told: 0, nowhere", "shop[P;1] told(0,0..5)=1,0,0,1,0,3");
        Calls.due("13 each part alone", "shop[P;1w2,1e3,1r,1@0] told(0..3,1)=2,0,0,0 told(0..3,2)=0,3,0,0 told(0..3,4)=0,0,1,0 told(0..3,5)=3,3,3,0");
        Calls.due("13 blanks count for nothing", "shop[ P , D ; 3 w 4 e 5 r @ 1 , 2 ]=2 told(0,0..5)=3,4,5,3,1,1 told(1,0)=2");
        Calls.due("13 of 100 letters", "type[P;1] 96*type(32) type(114)=100 shop()=1 told(0,4)=1");
    }

    private static void shopRanges() {
        Calls.due("13 a number 1 .. 30", "shop[P;1]=1 shop[P;30]=1 shop[P;9,10,29]=3 shop[P;0]=-22 shop[P;31]=-22 shop[P;00]=-22 shop[P;300]=-22");
        Calls.due("13 a number beyond all numbers", "shop[P;1,4294967297]=-24 shop[P;2147483648]=-22 shop[P;18446744073709551617]=-22");
        Calls.due("13 w and a digit 0 .. 5", "shop[P;1w0,1w5]=2 told(0..1,1)=0,5 shop[P;1w6]=-24 shop[P;1w9]=-24 shop[P;1w]=-24 shop[P;1wx]=-24 shop[P;1w05]=-25");
        Calls.due("13 e and a digit 0 .. 5", "shop[P;1e0,1e5]=2 told(0..1,2)=0,5 shop[P;1e6]=-24 shop[P;1e9]=-24 shop[P;1e]=-24 shop[P;1ex]=-24 shop[P;1e05]=-25");
        Calls.due("13 @ and a bag that there is", "shop[P;1@0]=1 shop[P;1@1]=-24 shop[P,P;1@1]=1 shop[P,P;1@2]=-26 shop[P,P,P;1@2]=1 shop[P,P,P;1@3]=-28",
            "shop[P;1@]=-24 shop[P;1@x]=-24 shop[P;1@9]=-24 shop[P;1@/]=-24 shop[P;1@:]=-24 shop[P;1@00]=-25");
        Calls.due("13 digits beside the right ones", "shop[P;/]=-22 shop[P;:]=-22 shop[P;1/]=-23 shop[P;1:]=-23 shop[P;1w/]=-24 shop[P;1e/]=-24");
    }

    private static void shopFaults() {
        Calls.due("13 FAULT: the end", "shop[]=-20 shop[  ]=-22 shop[P]=-21 shop[P ]=-22 shop[P,]=-22 shop[P;]=-22 shop[P; ]=-23 shop[P;1,]=-24 shop[P;1, ]=-25");
        Calls.due("13 FAULT: no bag", "shop[;1]=-20 shop[,P;1]=-20 shop[P,;1]=-22 shop[P,,P;1]=-22 shop[p;1]=-20 shop[X;1]=-20 shop[1]=-20");
        Calls.due("13 FAULT: the 4th bag", "shop[P,P,P,P;1]=-25 shop[P,P,P ,P;1]=-26");
        Calls.due("13 FAULT: between bags", "shop[PP;1]=-21 shop[P P;1]=-22 shop[P.P;1]=-21 shop[P;;1]=-22 shop[P:1]=-21");
        Calls.due("13 FAULT: a thing without ; ahead of it", "shop[P1]=-21 shop[P 1]=-22 shop[P,D1]=-23 shop[P,D 1@0]=-24 shop[P,P,P1]=-25 shop[P,1]=-22 count(0..1)=0");
        Calls.due("13 FAULT: no thing", "shop[P;,1]=-22 shop[P;1,,1]=-24 shop[P;w1]=-22 shop[P;r]=-22 shop[P;@0]=-22 shop[P;x]=-22");
        Calls.due("13 FAULT: the 9th thing", "shop[P;1,1,1,1,1,1,1,1,1]=-37 shop[P;1,1,1,1,1,1,1,1 ,1]=-38 shop[P;1,1,1,1,1,1,1,1x]=-37");
        Calls.due("13 FAULT: between things", "shop[P;1;1]=-23 shop[P;1.1]=-23 shop[P;1P]=-23 shop[P;1x]=-23");
        Calls.due("13 FAULT: blanks end a number", "shop[P;1 1]=-24 shop[P;3 0]=-24 shop[P;1 2w1]=-24");
        Calls.due("13 FAULT: of a number its first digit", "shop[P; 99]=-23 shop[P;1, 31]=-25 shop[P;5,40w9]=-24");
        Calls.due("13 FAULT: parts out of their order, or twice", "shop[P;1e1w1]=-25 shop[P;1rw1]=-24 shop[P;1re1]=-24 shop[P;1@0r]=-25 shop[P;1@0w1]=-25",
            "shop[P;1w1w1]=-25 shop[P;1e1e1]=-25 shop[P;1rr]=-24 shop[P;1@0@0]=-25");
        Calls.due("13 FAULT: behind blanks", "shop[  x]=-22 shop[P;1   x]=-26 shop[P;1 w   x]=-28 shop[P;1 w   ]=-28");
        Calls.due("13 FAULT: all stays", "way[...] shop[P,C;7@1] step() set(0,0,5) shop[D;1,1,x]=-26 count(0..5)=2,1,3,1,0,1 of(0,0..2)=0,5,0 told(0,0)=7 told(0,5)=1 undo()=0");
        Calls.due("13 FAULT: the tape is empty then", "shop[P;x]=-22 type(80)=1 shop[;1]=1");
        Calls.due("13 FAULT: in the last of 100 letters", "type[P;1] 96*type(32) type(120)=100 shop()=-119 type[P;1,] 96*type(32) shop()=-120");
    }

    private static void sort() {
        Calls.due("14 BAD: no way", "sort(0)=BAD sort(-1)=BAD");
        Calls.due("14 BAD: no such step", "way[...] sort(-1)=BAD sort(3)=BAD sort(20)=BAD sort(LOW)=BAD sort(HIGH)=BAD");
        Calls.due("14 the last of 20", "way[...................s]=20 sort(18..19)=0,4 sort(20)=BAD");
        Calls.due("14 steps that are gone", "way[ub] 2*step() sort(0..1)=1,3 sort(2)=BAD");
    }

    private static void count() {
        Calls.due("15 BAD", "count(-1)=BAD count(7)=BAD count(LOW)=BAD count(HIGH)=BAD");
        Calls.due("15 most", "way[bbbbbbbbbbbbbbbbbbbb] shop[P,P,P;1,1,1,1,1,1,1,1] count(0..6)=3,8,20,0,0,0,20");
        Calls.due("15 at home", "way[bbbbbbbbbbbbbbbbbbbb] 20*step() count(2..3)=20 count(6)=0");
        Calls.due("15 all on the ground", "way[.] shop[C;1@0,1@0,1@0,1@0,1@0,1@0,1@0,1@0] set(0,1,99) step()=255 count(4)=8");
        Calls.due("15 8 may be undone at most", "way[...........] 7*step() count(5)=7 step() count(5)=8 step() count(5)=8");
        Calls.due("15 a bus from here on: the next one counts, the last not any more", "way[b.b] count(6)=2 step() count(6)=1 step() count(6)=1 step() count(6)=0");
    }
}
