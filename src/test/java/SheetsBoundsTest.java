/**
 * The boundary cases of promises 31 to 36: sheets.
 * Items are seen by an empty bag without wear: its sag is a tenth of its wet, so an item v of 0 .. 9 is told as 10 times v.
 */
public final class SheetsBoundsTest {
    private static final String TWENTY_FLAT = "way[....................]";
    /** Bag 0 is that empty one. */
    private static final String EYE = "way[..] shop[C,C;1] ";

    public static void main(String[] args) {
        saggedBad();
        saggedRefused();
        saggedWets();
        saggedSteps();
        filmRefused();
        filmPlaces();
        filmFalls();
        sheet();
        sheetRefused();
        drop();
        item();
        itemBits();
        copy();
        copyRefused();
        copyOverItself();
        Check.end("SheetsBoundsTest");
    }

    private static void saggedBad() {
        String setup = "way[..........] shop[C,C;1] sheet(1,2,24) ";
        Calls.due("31 BAD: bag", setup + "sagged(2,1,2,0,1,0)=BAD sagged(-1,1,2,0,1,0)=BAD sagged(LOW,1,2,0,1,0)=BAD sagged(HIGH,1,2,0,1,0)=BAD");
        Calls.due("31 BAD: sheet", setup + "sagged(0,4,2,0,1,0)=BAD sagged(0,-1,2,0,1,0)=BAD sagged(0,LOW,2,0,1,0)=BAD sagged(0,HIGH,2,0,1,0)=BAD");
        Calls.due("31 BAD: lane", setup + "sagged(0,1,4,0,1,0)=BAD sagged(0,1,-1,0,1,0)=BAD sagged(0,1,LOW,0,1,0)=BAD sagged(0,1,HIGH,0,1,0)=BAD");
        Calls.due("31 BAD: n is 1 .. 8", setup + "sagged(0,1,2,0,0..9,0)=BAD,10,10,10,10,10,10,10,10,BAD sagged(0,1,2,0,-1,0)=BAD sagged(0,1,2,0,LOW,0)=BAD sagged(0,1,2,0,HIGH,0)=BAD");
        Calls.due("31 BAD: what", setup + "sagged(0,1,2,0,1,-1)=BAD sagged(0,1,2,0,1,2)=BAD sagged(0,1,2,0,1,LOW)=BAD sagged(0,1,2,0,1,HIGH)=BAD");
        Calls.due("31 BAD: n above steps left", setup + "3*step() sagged(0,1,2,0,7..8,0)=10,BAD 6*step() sagged(0,1,2,0,1..2,0)=10,BAD step() sagged(0,1,2,0,1,0)=BAD again() sagged(0,1,2,0,8,0)=10");
        Calls.due("31 BAD: no way", "bag(0) sheet(0,0,9) sagged(0,0,0,0,1,0)=BAD");
    }

    private static void saggedRefused() {
        String setup = "way[........] shop[C;1] sheet(1,2,6) sheet(2,0,0) ";
        Calls.due("31 NULL", setup + "sagged(0,0,2,0,1,0)=NULL sagged(0,3,0,0,1,1)=NULL drop(1)=6 sagged(0,1,2,0,1,0)=NULL");
        Calls.due("31 CAST", setup + "sagged(0,1,0..3,0,1,0)=CAST,CAST,10,CAST");
        Calls.due("31 INDEX: ahead of the first item", setup + "sagged(0,1,2,-1,1,0)=INDEX sagged(0,1,2,LOW,1,0)=INDEX");
        Calls.due("31 INDEX: behind the last item", setup + "sagged(0,1,2,5..6,1,0)=10,INDEX sagged(0,1,2,HIGH,1,0)=INDEX sagged(0,1,2,HIGH,8,0)=INDEX");
        Calls.due("31 INDEX: the last ones are not there", setup + "sagged(0,1,2,0,6..8,0)=10,INDEX,INDEX sagged(0,1,2,2..3,4,0)=10,INDEX");
        Calls.due("31 INDEX: a sheet without items", setup + "sagged(0,2,0,0,1,0)=INDEX");
        Calls.due("31 BAD ahead of NULL, CAST, INDEX", setup + "sagged(1,0,2,0,1,0)=BAD sagged(0,0,2,0,9,0)=BAD sagged(0,1,0,0,9,0)=BAD sagged(0,1,2,99,9,0)=BAD sagged(0,0,2,99,1,2)=BAD");
        Calls.due("31 NULL ahead of CAST, INDEX", setup + "sagged(0,0,1,99,1,0)=NULL sagged(0,0,1,-1,1,0)=NULL");
        Calls.due("31 CAST ahead of INDEX", setup + "sagged(0,1,1,99,1,0)=CAST sagged(0,1,1,-1,1,0)=CAST");
    }

    private static void saggedWets() {
        String setup = EYE + "sheet(0,1,3) ";
        Calls.due("31 wets 0 .. 99: the least is 0", setup + "sagged(0,0,1,0,1,0..1)=10,0");
        Calls.due("31 wets 0 .. 99: the most is 99", setup + "item(0,1,0,9) sagged(0,0,1,0,1,0..1)=10,90 item(0,1,0,10) sagged(0,0,1,0,1,0..1)=0,NONE set(0,1,1) sagged(0,0,1,0,1,0..1)=1,99");
        Calls.due("31 sag is cut", setup + "item(0,1,0,3) set(0,1,9) sagged(0,0,1,0,1,0..1)=10,21 set(0,1,39) sagged(0,0,1,0,1,0..1)=1,0 set(0,1,40) sagged(0,0,1,0,1,0..1)=0,NONE");
        Calls.due("31 whatever its wet is now", setup + "item(0,1,0,3) set(0,0,999) sagged(0,0,1,0,1,0..1)=10,30");
        Calls.due("31 NONE: there is none, of below 0 too", setup + "item(0,1,0,-1) sagged(0,0,1,0,1,0..1)=0,NONE");
        Calls.due("31 most wear", setup + "set(0,1,999) item(0,1,0,99) sagged(0,0,1,0,1,0..1)=1,0 item(0,1,0,109) sagged(0,0,1,0,1,0..1)=9,91 item(0,1,0,110) sagged(0,0,1,0,1,0..1)=0,NONE");
        Calls.due("31 of each lane", EYE + "sheet(0..3,0..3,2) sheet(0,0,2) sheet(1,1,2) sheet(2,2,2) item(0,0,1,4) item(1,1,1,5) item(2,2,1,6) item(3,3,1,7)",
            "sagged(0,0,0,1,1,1)=40 sagged(0,1,1,1,1,1)=50 sagged(0,2,2,1,1,1)=60 sagged(0,3,3,1,1,1)=70");
    }

    private static void saggedSteps() {
        String setup = "way[.s......] shop[C;1w3e1@0] sheet(0,0,9) ";
        Calls.due("31 behind the first step: 3 of wet, 2 of wear", setup + "item(0,0,0,1) sagged(0,0,0,0,1,0..1)=10,5");
        Calls.due("31 behind the bench: 3 of wet, 2 of wear, without edges", setup + "step() set(0,1,0) item(0,0,0,1) sagged(0,0,0,0,1,0..1)=10,5 way[.] step() undo()=0 set(0,1,0) sagged(0,0,0,0,1,0..1)=10,5");
        Calls.due("31 a bench is not by edges", "way[s] shop[C;1e5@0] sheet(0,0,1) item(0,0,0,1) sagged(0,0,0,0,1,0..1)=10,8 way[.] sagged(0,0,0,0,1,0..1)=10,4");
        Calls.due("31 each step by its own sort", "way[.s.] shop[C;1e5@0] sheet(0,0,3) item(0,0,1..2,1) sagged(0,0,0,0,3,0..1)=2,2 item(0,0,0,1) sagged(0,0,0,0,3,0..1)=2,4",
            "way[s..] sagged(0,0,0,0,3,0..1)=0,NONE item(0,0,0,0) sagged(0,0,0,0,3,0..1)=4,2");
        Calls.due("31 behind 8 steps", "way[........] shop[C;1w5@0] sheet(0,0,8) item(0,0,0..7,0) item(0,0,1..2,1) item(0,0,3,2) item(0,0,4..5,3) item(0,0,6..7,4) sagged(0,0,0,0,8,0..1)=2,0",
            "item(0,0,0,1) sagged(0,0,0,0,8,0..1)=0,NONE sagged(0,0,0,1,7,0..1)=2,6");
        Calls.due("31 from item i on", setup + "item(0,0,3,1) item(0,0,4,1) sagged(0,0,0,3,2,0..1)=5,5");
        Calls.due("31 from here on", "way[....] shop[C;1@0] sheet(0,0,4) 2*step() item(0,0,0,0) item(0,0,1,1) sagged(0,0,0,0,2,0..1)=1,6");
        Calls.due("31 as if nothing gave", "way[..] shop[P;30w5@0] set(0,1,900) sheet(0,0,2) item(0,0,0,90) item(0,0,1,91) holds(0)=0 sagged(0,0,0,0,2,0..1)=4,0");
        Calls.due("31 wear is 999 at most", "way[..] shop[C;1@0] set(0,1,999) sheet(0,0,2) item(0,0,0..1,100) sagged(0,0,0,0,2,0..1)=10,1");
        Calls.due("31 nothing is changed", setup + "sagged(0,0,0,0,8,0) of(0,1..2)=0 count(3)=0 count(5)=0");
    }

    private static void filmRefused() {
        String setup = "way[...] shop[C;1@0] sheet(1,2,5) ";
        Calls.due("32 BAD: jolt", setup + "film(-1,1,2,0)=BAD film(8,1,2,0)=BAD film(LOW,1,2,0)=BAD film(HIGH,1,2,0)=BAD film(0..7,1,2,0)=3");
        Calls.due("32 BAD: sheet", setup + "film(0,-1,2,0)=BAD film(0,4,2,0)=BAD film(0,LOW,2,0)=BAD film(0,HIGH,2,0)=BAD");
        Calls.due("32 BAD: lane", setup + "film(0,1,-1,0)=BAD film(0,1,4,0)=BAD film(0,1,LOW,0)=BAD film(0,1,HIGH,0)=BAD");
        Calls.due("32 NULL", setup + "film(0,0,2,0)=NULL film(0,2..3,0..3,0)=NULL drop(1)=5 film(0,1,2,0)=NULL");
        Calls.due("32 CAST", setup + "film(0,1,0..3,0)=CAST,CAST,3,CAST");
        Calls.due("32 INDEX", setup + "film(0,1,2,-1..4)=INDEX,3,3,3,INDEX,INDEX film(0,1,2,LOW)=INDEX film(0,1,2,HIGH)=INDEX");
        Calls.due("32 BAD ahead of NULL, CAST, INDEX", setup + "film(8,0,2,0)=BAD film(8,1,0,0)=BAD film(8,1,2,9)=BAD film(0,0,4,9)=BAD");
        Calls.due("32 NULL ahead of CAST, INDEX", setup + "film(0,0,0,99)=NULL film(0,0,0,-1)=NULL");
        Calls.due("32 CAST ahead of INDEX", setup + "film(0,1,1,99)=CAST film(0,1,1,-1)=CAST");
        Calls.due("32 at home, without a way", setup + "3*step() film(0,1,2,0)=0 film(0,1,2,5)=0 film(0,1,2,6)=INDEX film(0,1,2,-1)=INDEX film(0,0,2,0)=NULL film(0,1,1,0)=CAST");
        Calls.due("32 20 steps in 24 items", TWENTY_FLAT + " sheet(0,0,24) film(0,0,0,0)=20 film(0,0,0,4)=20 film(0,0,0,5)=INDEX sheet(0,0,20) film(0,0,0,0)=20 film(0,0,0,1)=INDEX sheet(0,0,19) film(0,0,0,0)=INDEX");
    }

    private static void filmPlaces() {
        String three = "way[...] shop[C,C,C;1@0,2@1] set(0,1,99) set(1,1,97) sheet(0,1,6) item(0,1,0..5,9) ";
        Calls.due("32 in the midst", three + "film(0,0,1,2)=3 sagged(2,0,1,0..5,1,1)=90,90,10,20,0,90");
        Calls.due("32 at the first item", three + "film(0,0,1,0)=3 sagged(2,0,1,0..5,1,1)=10,20,0,90,90,90");
        Calls.due("32 up to the last item", three + "film(0,0,1,3)=3 sagged(2,0,1,0..5,1,1)=90,90,90,10,20,0");
        Calls.due("32 INDEX changes nothing", three + "film(0,0,1,4)=INDEX sagged(2,0,1,0..5,1,1)=90");
        Calls.due("32 nothing else is changed", three + "film(0,0,1,0)=3 of(0..1,1..4)=0,99,0,1,0,97,0,2 count(3..5)=0 told(0..1,5)=0,1 seed(1)=1");
        Calls.due("32 from here on", three + "step()=1 film(0,0,1,0)=2 sagged(2,0,1,0..2,1,1)=20,0,90");
        Calls.due("32 at home nothing comes", three + "3*step() film(0,0,1,0)=0 again() sagged(2,0,1,0..5,1,1)=90");
        Calls.due("32 two bags at two steps, one by its corner", "way[...] shop[C,T,C;30@0,20@1,1e4@1] set(0,1,70) set(1,1,12) sheet(0,1,3)",
            "film(0,0,1,0)=3 sagged(2,0,1,0..2,1,1)=10,20,0");
    }

    private static void filmFalls() {
        Calls.due("32 two bags in one step", "way[.] shop[C,C,C;1@0,1@1,1] set(0..1,1,99) sheet(0,0,1) film(0,0,0,0)=1 sagged(2,0,0,0,1,1)=30");
        Calls.due("32 the jolt is in each bus", "way[b.b] shop[C,C;30@0] set(0,1,51) sheet(0,0,3) film(5,0,0,0)=3 sagged(1,0,0,0..2,1,1)=0 film(6,0,0,0)=3 sagged(1,0,0,0..2,1,1)=0,0,10 set(0,1,52) film(6,0,0,0)=3 sagged(1,0,0,0..2,1,1)=10,0,0");
        Calls.due("32 the jolt is but in a bus", "way[d] shop[C,C;30@0] set(0,1,60) sheet(0,0,1) film(7,0,0,0)=1 sagged(1,0,0,0,1,1)=0 set(0,1,61) film(0,0,0,0)=1 sagged(1,0,0,0,1,1)=10");
        Calls.due("32 the first handle, then the last", "way[...] shop[P,C;30@0] set(0,1,45) sheet(0,2,3) film(0,0,2,0)=3 sagged(1,0,2,0..2,1,1)=0,10,0");
        Calls.due("32 nothing falls on a bench", "way[s.] shop[P,C;30@0] set(0,0,99) sheet(0,3,2) film(7,0,3,0)=2 sagged(1,0,3,0..1,1,1)=0,10");
        Calls.due("32 the corner, then the bottom", "way[.......] shop[T,C;1e4@0,20@0] set(0,1,15) sheet(0,0,7) film(0,0,0,0)=7 sagged(1,0,0,0..6,1,1)=10,0,0,0,0,0,20");
        Calls.due("32 the only one that holds something is the last", "way[..] shop[C,C,C;1@2] set(2,1,98) sheet(0,0,2) film(0,0,0,0)=2 sagged(0,0,0,0..1,1,1)=0,10");
        Calls.due("32 no bag, no thing", "way[..] sheet(0,0,2) item(0,0,0..1,5) film(0,0,0,0)=2 shop[C;1] sagged(0,0,0,0..1,1,1)=0");
        Calls.due("32 the eighth thing in bytes is below 0", "way[..] shop[C,C;1,1,1,1,1,1,1,1@0] set(0,1,99) sheet(0,0,2) film(0,0,0,0)=2 sagged(1,0,0,0..1,1,0)=0,10");
    }

    private static void sheet() {
        Calls.due("33 sheets 0 .. 3, lanes 0 .. 3", "sheet(0..3,0..3,5)=5 drop(0..3)=5");
        Calls.due("33 of 0 to 24 items", "sheet(0,0,0)=0 drop(0)=0 sheet(0,0,1)=1 drop(0)=1 sheet(0,0,24)=24 item(0,0,23..24,1)=1,INDEX drop(0)=24");
        Calls.due("33 24 items of each lane", "sheet(0,0..3,24)=24 item(0,3,23,1)=1");
        Calls.due("33 a new row has 0 in it", EYE + "sheet(0,1,4) item(0,1,0..3,7) sagged(0,0,1,0..3,1,1)=70 sheet(0,1,4)=4 sagged(0,0,1,0..3,1,1)=0");
        Calls.due("33 a new row, of more items", EYE + "sheet(0,1,24) item(0,1,20..23,7) sheet(0,1,2) sheet(0,1,24) sagged(0,0,1,20..23,1,1)=0");
        Calls.due("33 of another lane", "sheet(0,1,4) item(0,1,0,1)=1 sheet(0,2,4) item(0,1..3,0,1)=CAST,1,CAST");
        Calls.due("33 one without items is there", "sheet(0,2,0)=0 item(0,2,0,1)=INDEX drop(0)=0 drop(0)=NULL");
    }

    private static void sheetRefused() {
        Calls.due("33 BAD: sheet", "sheet(-1,0,1)=BAD sheet(4,0,1)=BAD sheet(LOW,0,1)=BAD sheet(HIGH,0,1)=BAD");
        Calls.due("33 BAD: lane", "sheet(0,-1,1)=BAD sheet(0,4,1)=BAD sheet(0,LOW,1)=BAD sheet(0,HIGH,1)=BAD drop(0)=NULL");
        Calls.due("33 BAD: n above 24", "sheet(0,0,25)=BAD sheet(0,3,25)=BAD sheet(0,0,HIGH)=BAD drop(0)=NULL");
        Calls.due("33 SIZE: n below 0", "sheet(0,0,-1)=SIZE sheet(0,3,-1)=SIZE sheet(0,0,LOW)=SIZE drop(0)=NULL");
        Calls.due("33 BAD ahead of SIZE", "sheet(4,0,-1)=BAD sheet(-1,0,-1)=BAD sheet(0,4,-1)=BAD sheet(0,-1,LOW)=BAD");
        Calls.due("33 what is refused leaves the row", EYE + "sheet(0,1,3) item(0,1,0..2,7) sheet(0,2,-1)=SIZE sheet(0,2,25)=BAD sheet(0,4,2)=BAD sagged(0,0,1,0..2,1,1)=70 drop(0)=3");
    }

    private static void drop() {
        Calls.due("34 BAD", "drop(-1)=BAD drop(4)=BAD drop(LOW)=BAD drop(HIGH)=BAD");
        Calls.due("34 NULL: at first, and behind a drop", "drop(0..3)=NULL sheet(2,1,7) drop(2)=7 drop(2)=NULL");
        Calls.due("34 how many items it had", "sheet(0,0,0) sheet(1,1,1) sheet(2,2,24) sheet(3,3,23) drop(0..3)=0,1,24,23");
        Calls.due("34 the others stay", "sheet(0..3,2,5) drop(1)=5 item(0..3,2,0,1)=1,NULL,1,1");
        Calls.due("34 a row that comes then has nothing of it", EYE + "sheet(0,1,3) item(0,1,0..2,7) drop(0) sheet(0,1,3) sagged(0,0,1,0..2,1,1)=0");
    }

    private static void item() {
        String setup = "sheet(1,2,6) sheet(2,0,0) ";
        Calls.due("35 BAD: sheet", setup + "item(-1,2,0,1)=BAD item(4,2,0,1)=BAD item(LOW,2,0,1)=BAD item(HIGH,2,0,1)=BAD");
        Calls.due("35 BAD: lane", setup + "item(1,-1,0,1)=BAD item(1,4,0,1)=BAD item(1,LOW,0,1)=BAD item(1,HIGH,0,1)=BAD");
        Calls.due("35 NULL", setup + "item(0,0..3,0,1)=NULL item(3,0..3,0,1)=NULL drop(1) item(1,2,0,1)=NULL");
        Calls.due("35 CAST", setup + "item(1,0..3,0,1)=CAST,CAST,1,CAST");
        Calls.due("35 INDEX", setup + "item(1,2,-1..6,1)=INDEX,1,1,1,1,1,1,INDEX item(1,2,LOW,1)=INDEX item(1,2,HIGH,1)=INDEX item(2,0,0,1)=INDEX");
        Calls.due("35 BAD ahead of NULL, CAST, INDEX", setup + "item(4,2,99,1)=BAD item(0,4,99,1)=BAD item(1,4,99,1)=BAD");
        Calls.due("35 NULL ahead of CAST, INDEX", setup + "item(0,1,99,1)=NULL item(0,1,-1,1)=NULL");
        Calls.due("35 CAST ahead of INDEX", setup + "item(1,1,99,1)=CAST item(1,1,-1,1)=CAST item(2,1,0,1)=CAST");
        Calls.due("35 the others stay", EYE + "sheet(0,1,4) sheet(1,1,4) item(0,1,2,5)=1 sagged(0,0,1,0..3,1,1)=0,0,50,0 sagged(0,1,1,0..3,1,1)=0");
        Calls.due("35 what is refused changes nothing", EYE + "sheet(0,1,2) item(0,1,0..1,5) item(0,1,2,7)=INDEX item(0,1,-1,7)=INDEX item(0,2,0,7)=CAST sagged(0,0,1,0..1,1,1)=50");
    }

    /** With a wear of 999 sags of 99 to 109 can be seen, with less those ahead of them. */
    private static void itemBits() {
        Calls.due("35 bytes: the lowest 8 bits", EYE + "sheet(0,0,1) item(0,0,0,263)=1 sagged(0,0,0,0,1,1)=70 item(0,0,0,-249) sagged(0,0,0,0,1,1)=70 item(0,0,0,256) sagged(0,0,0,0,1,1)=0 item(0,0,0,255) sagged(0,0,0,0,1,0)=0");
        Calls.due("35 bytes: 127 stays above 0, 128 not", EYE + "sheet(0,0,1) set(0,1,999) item(0,0,0,105) sagged(0,0,0,0,1,1)=51 item(0,0,0,233) sagged(0,0,0,0,1,0)=0 item(0,0,0,361) sagged(0,0,0,0,1,1)=51");
        Calls.due("35 shorts: the lowest 16 bits", EYE + "sheet(0,1,1) item(0,1,0,65543)=1 sagged(0,0,1,0,1,1)=70 item(0,1,0,-65529) sagged(0,0,1,0,1,1)=70 item(0,1,0,263) sagged(0,0,1,0,1,0)=0 item(0,1,0,65535) sagged(0,0,1,0,1,0)=0");
        Calls.due("35 ints: the lowest 32 bits", EYE + "sheet(0,2,1) item(0,2,0,4294967303)=1 sagged(0,0,2,0,1,1)=70 item(0,2,0,-4294967289) sagged(0,0,2,0,1,1)=70 item(0,2,0,65543) sagged(0,0,2,0,1,0)=0 item(0,2,0,4294967295) sagged(0,0,2,0,1,0)=0");
        Calls.due("35 longs: all bits", EYE + "sheet(0,3,1) item(0,3,0,4294967303)=1 sagged(0,0,3,0,1,0)=0 item(0,3,0,7) sagged(0,0,3,0,1,1)=70 item(0,3,0,263) sagged(0,0,3,0,1,0)=0");
        Calls.due("35 the least and the most", EYE + "sheet(0,0,1) sheet(1,1,1) sheet(2,2,1) sheet(3,3,1)",
            "item(0,0,0,-9223372036854775808)=1 item(1,1,0,-9223372036854775808)=1 item(2,2,0,-9223372036854775808)=1 item(3,3,0,-9223372036854775808)=1",
            "sagged(0,0,0,0,1,0)=10 sagged(0,1,1,0,1,0)=10 sagged(0,2,2,0,1,0)=10 sagged(0,3,3,0,1,0)=0 item(3,3,0,9223372036854775807)=1 sagged(0,3,3,0,1,0)=0");
    }

    /** Sheet 0 has 1 .. 6, sheet 1 four times 9. */
    private static final String ROWS = EYE + "sheet(0,2,6) item(0,2,0,1) item(0,2,1,2) item(0,2,2,3) item(0,2,3,4) item(0,2,4,5) item(0,2,5,6) sheet(1,2,4) item(1,2,0..3,9) ";

    private static void copy() {
        Calls.due("36 all of one", ROWS + "copy(1,0,0,0,4)=4 sagged(0,0,2,0..5,1,1)=90,90,90,90,50,60");
        Calls.due("36 up to both ends", ROWS + "copy(0,2,1,0,4)=4 sagged(0,1,2,0..3,1,1)=30,40,50,60 sagged(0,0,2,0..5,1,1)=10,20,30,40,50,60");
        Calls.due("36 the last to the last", ROWS + "copy(0,5,1,3,1)=1 sagged(0,1,2,0..3,1,1)=90,90,90,60");
        Calls.due("36 none, at both ends", ROWS + "copy(0,6,1,4,0)=0 copy(0,0,1,0,0)=0 sagged(0,1,2,0..3,1,1)=90");
        Calls.due("36 none, of sheets without items", "sheet(0,1,0) sheet(1,1,0) copy(0,0,1,0,0)=0 copy(0,0,1,0,1)=INDEX copy(0,1,1,0,0)=INDEX");
        Calls.due("36 24 items", EYE + "sheet(0..1,0,24) item(0,0,0..23,3) copy(0,0,1,0,24)=24 sagged(0,1,0,0..23,1,1)=30");
        Calls.due("36 longs, all bits", EYE + "sheet(0..1,3,1) item(0,3,0,4294967296) copy(0,0,1,0,1)=1 sagged(0,1,3,0,1,0)=0 item(0,3,0,8) sagged(0,1,3,0,1,0)=0 copy(0,0,1,0,1)=1 sagged(0,1,3,0,1,1)=80");
    }

    private static void copyRefused() {
        Calls.due("36 BAD: from", ROWS + "copy(-1,0,1,0,1)=BAD copy(4,0,1,0,1)=BAD copy(LOW,0,1,0,1)=BAD copy(HIGH,0,1,0,1)=BAD");
        Calls.due("36 BAD: to", ROWS + "copy(0,0,-1,0,1)=BAD copy(0,0,4,0,1)=BAD copy(0,0,LOW,0,1)=BAD copy(0,0,HIGH,0,1)=BAD");
        Calls.due("36 NULL: either, or both", ROWS + "copy(2,0,0,0,1)=NULL copy(0,0,2,0,1)=NULL copy(2,0,3,0,1)=NULL copy(2,0,2,0,0)=NULL drop(1) copy(0,0,1,0,1)=NULL");
        Calls.due("36 CAST: of unlike lanes", ROWS + "sheet(2,0,4) copy(0,0,2,0,1)=CAST copy(2,0,0,0,1)=CAST sheet(2,1,4) copy(0,0,2,0,1)=CAST sheet(2,3,4) copy(0,0,2,0,0)=CAST sheet(2,2,4) copy(0,0,2,0,1)=1");
        Calls.due("36 INDEX: from", ROWS + "copy(0,-1,1,0,1)=INDEX copy(0,6,1,0,1)=INDEX copy(0,3,1,0,4)=INDEX copy(0,7,1,0,0)=INDEX copy(0,-1,1,0,0)=INDEX copy(0,LOW,1,0,1)=INDEX copy(0,HIGH,1,0,1)=INDEX");
        Calls.due("36 INDEX: to", ROWS + "copy(0,0,1,-1,1)=INDEX copy(0,0,1,4,1)=INDEX copy(0,0,1,1,4)=INDEX copy(0,0,1,5,0)=INDEX copy(0,0,1,-1,0)=INDEX copy(0,0,1,LOW,1)=INDEX copy(0,0,1,HIGH,1)=INDEX");
        Calls.due("36 INDEX: n", ROWS + "copy(0,0,1,0,-1)=INDEX copy(0,0,1,0,5)=INDEX copy(1,0,0,0,5)=INDEX copy(0,1,1,1,HIGH)=INDEX copy(0,6,1,4,HIGH)=INDEX copy(0,0,1,0,LOW)=INDEX copy(0,1,1,1,-1)=INDEX");
        Calls.due("36 BAD ahead of NULL, CAST, INDEX", ROWS + "sheet(3,0,1) copy(2,0,4,0,1)=BAD copy(-1,0,2,0,1)=BAD copy(4,9,0,9,9)=BAD");
        Calls.due("36 NULL ahead of CAST, INDEX", ROWS + "sheet(3,0,1) copy(3,99,2,0,1)=NULL copy(2,0,3,99,1)=NULL copy(0,0,2,0,-1)=NULL");
        Calls.due("36 CAST ahead of INDEX", ROWS + "sheet(3,0,1) copy(0,99,3,0,1)=CAST copy(3,0,0,99,1)=CAST copy(0,0,3,0,-1)=CAST");
        Calls.due("36 INDEX changes nothing", ROWS + "copy(0,0,1,1,4)=INDEX copy(0,3,1,0,4)=INDEX copy(0,0,1,0,-1)=INDEX sagged(0,1,2,0..3,1,1)=90 sagged(0,0,2,0..5,1,1)=10,20,30,40,50,60");
    }

    private static void copyOverItself() {
        Calls.due("36 the same, on by one", ROWS + "copy(0,0,0,1,5)=5 sagged(0,0,2,0..5,1,1)=10,10,20,30,40,50");
        Calls.due("36 the same, back by one", ROWS + "copy(0,1,0,0,5)=5 sagged(0,0,2,0..5,1,1)=20,30,40,50,60,60");
        Calls.due("36 the same, to where it is", ROWS + "copy(0,0,0,0,6)=6 sagged(0,0,2,0..5,1,1)=10,20,30,40,50,60");
        Calls.due("36 the same, beside", ROWS + "copy(0,0,0,3,3)=3 sagged(0,0,2,0..5,1,1)=10,20,30,10,20,30");
        Calls.due("36 the same, too far", ROWS + "copy(0,0,0,1,6)=INDEX copy(0,1,0,0,6)=INDEX sagged(0,0,2,0..5,1,1)=10,20,30,40,50,60");
    }
}
