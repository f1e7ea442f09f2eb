/** An object is used for 512 calls: runs that go that far, where something fills up, wraps around or wears out. */
public final class LongRunsTest {
    private static final String TWENTY = "way[ssssssssssssssssssss]";

    public static void main(String[] args) {
        wornByBenches();
        wornByWalks();
        drawnOften();
        undoneOften();
        ringOfEight();
        tapesFull();
        shopsOften();
        imagesOften();
        sheetsOften();
        searchesOften();
        refusedOften();
        Check.end("LongRunsTest");
    }

    /** All 512 calls are made: what is due of the last one is told in the run. */
    private static void toTheEnd(Calls run, String say) {
        Check.due(say + ": calls", run.made(), Calls.MOST);
    }

    private static void wornByBenches() {
        Calls run = Calls.due("999 at most, by 460 steps", "bag(3)=0 thing(1,5,0,0,0)=0 pack(0,0)=3", TWENTY + "=20");
        for (int round = 0; round < 23; round++) run.go("20*step()=0 again()=20");
        toTheEnd(run.go("of(0,1..3)=999,920,0 undo()=7 count(3)=19"), "worn by benches");
        run = Calls.due("wear is 999 at most, by 440 steps", "bag(0)=0 thing(1,0,5,0,0)=0 pack(0,0)=3 set(0,1,120)=0", TWENTY + "=20");
        for (int round = 0; round < 22; round++) run.go("20*step()=0 again()=20");
        run.go("of(0,2)=999 undo()=7 of(0,2)=998 undo()=6 of(0,2)=996 2*step()=0 of(0,2)=999");
    }

    private static void wornByWalks() {
        Calls run = Calls.due("cloth of 1 holds 99 steps", "way[....................] shop[C;1@0]=1");
        for (int round = 0; round < 4; round++) run.go("20*step()=0 again()=20");
        run.go("19*step()=0 holds(0)=19 step()=1 again()=20 told(0,5)=29 20*step()=0 again()=20 of(0,2)=100 pack(0,0)=NOT");
        run = Calls.due("wet to 999 by 25 steps", "way[....................] shop[C;1w5@0,1w5@0,1w5@0,1w5@0,1w5@0,1w5@0,1w5@0,1w5@0]=8");
        run.go("20*step()=0 again()=20 of(0,1)=800 4*step()=0 of(0,1)=960 step()=0 of(0,1)=999 15*step()=0 of(0,1..2)=999,40");
    }

    private static void drawnOften() {
        long draw = 1;
        Calls run = Calls.due("drawn 460 times", "way[bbbbbbbbbbbbbbbbbbbb]=20");
        for (int round = 0; round < 23; round++) {
            run.go("20*step()=0 again()=20");
            for (int s = 0; s < 20; s++) draw = draw * 1103515245L + 12345L & 0x7fffffffL;
        }
        toTheEnd(run.go("7*count(5)=8 seed(5)=" + draw), "drawn often");
    }

    private static void undoneOften() {
        Calls run = Calls.due("a step and its undoing, 160 times", "way[b.]=2 shop[C;30w1@0]=1 set(0,0,7)=0");
        run.go("160*undo()=NONE");
        for (int round = 0; round < 110; round++) run.go("step()=0 undo()=0");
        run.go("undo()=NONE of(0,1..3)=7,0,0 count(3)=0 seed(1)=1");
    }

    private static void ringOfEight() {
        Calls run = Calls.due("8 are known behind 300 steps", "way[ssssssssssssssssssss] shop[D;1w1@0]=1");
        for (int round = 0; round < 15; round++) run.go("20*step()=0 again()=20");
        run.go("count(5)=8 of(0,1)=300 8*undo()=7,6,5,4,3,2,1,0 undo()=NONE of(0,1)=292 count(3)=12");
        run.go("5*step()=0 3*undo()=4,3,2 5*step()=0 3*undo()=6,5,4 of(0,1)=296 count(3)=16 4*step()=0 8*undo()=7,6,5,4,3,2,1,0 of(0,1)=292 count(3)=12");
        run = Calls.due("steps, then fewer undone, all over the ring", "way[ssssssssssssssssssss] shop[D;1w1@0]=1");
        int wet = 0;
        for (int round = 0; round < 15; round++) {
            run.go("11*step()=0 again()=11 8*undo()=7,6,5,4,3,2,1,0 undo()=NONE again()=3 undo()=NONE");
            wet += 3;
            run.go("of(0,1)=" + wet);
        }
    }

    private static void tapesFull() {
        Calls run = new Calls("full tapes, again and again");
        for (int round = 0; round < 2; round++) {
            run.go("80*type(32) 20*type(117) type(117)=FULL way()=20 99*type(32) type(46)=100 type(46)=FULL way()=1");
        }
        run.go("98*type(46) type(46)=99 way()=-40 type(46)=1 way()=1 count(2)=1 type(46)=1");
    }

    private static void shopsOften() {
        Calls run = Calls.due("a shop in place of a shop", "way[....................]=20");
        for (int round = 0; round < 54; round++) run.go("shop[P;30@0]=1 set(0,0,40)=0 step()=" + (round < 20 ? "1" : "NOT"));
        toTheEnd(run.go("count(3)=20 count(0..1)=1 of(0,3)=0 count(4)=0"), "shops often");
    }

    private static void imagesOften() {
        Calls run = Calls.due("images and steps back to them", "way[....................] shop[C;1w1@0]=1");
        for (int round = 0; round < 79; round++) run.go("image()=1 2*step()=0 restore()=1 undo()" + (round == 0 ? "=NONE" : "") + " step()");
        run.go("of(0,1)=1 count(5)=1 undo()=0 undo()=NONE");
    }

    private static void sheetsOften() {
        Calls run = Calls.due("rows of longs, 24 items each", "way[.]=1 bag(0)=0");
        for (int round = 0; round < 100; round++) run.go("sheet(0..3,3,24)=24 item(3,3,23,9)=1");
        run.go("sagged(0,3,3,23,1,1)=90 sheet(3,3,24)=24 sagged(0,3,3,23,1,1)=0 drop(0..3)=24");
    }

    /** The dearest searches, over the longest way, with as many things as may be. */
    private static void searchesOften() {
        Calls run = Calls.due("searches", "way[b.udb.udb.udb.udsuds]=20 shop[C,D,T;30w1e1,9w2,8r,7e1,25,3w5e2]=6");
        long first = run.answers("packing(-1)").get(0);
        run.go("420*packing(-1)=" + first);
        run = Calls.due("searches", "way[b.udb.udb.udb.udsuds]=20 shop[C;30w1e1@0,9w2@0,8r@0,7e1@0,25@0,3w5e2@0,1@0,2@0]=8");
        first = run.answers("leave(0)").get(0);
        run.go("400*leave(0)=" + first);
        Check.holds("something is to be left", first > 0);
    }

    private static void refusedOften() {
        Calls run = new Calls("refused calls leave no trace, however many");
        run.go("bag(0..2)=0,1,2 8*thing(1,1,1,1,1) 100*bag(0)=FULL 100*thing(1,0,0,0,0)=FULL 100*pack(8,0)=BAD 100*step()=NOT 90*undo()=NONE");
        toTheEnd(run.go("count(0..6)=3,8,0,0,0,0,0 seed(4)=1 sheet(0,0,-1)=SIZE pack(7,2)=3 told(7,5)=2"), "refused often");
    }
}
