import java.util.List;

/**
 * "What is refused changes nothing, but as told", and what is but asked changes nothing either: two objects are made
 * alike, one of them has one call more, and then both must answer alike, whatever is asked.
 */
public final class RefusedTest {
    /** Two steps that may be undone in the image, a third one now, things on the ground, sheets 0 to 2, no tape. */
    private static final String LIVE = "way[.bu.dbs] shop[P,T,C;20w1@0,9r@0,1e4r@1,2@1,4] set(1,1,15) 2*step() image() set(0,0,5) seed(77) step()"
        + " sheet(0,0,5) item(0,0,0..4,3) sheet(1,1,4) item(1,1,1,6) sheet(2,2,3) item(2,2,0..2,8) ";
    private static final String TAPE = "type[P;1] ";
    private static final String[] PROBE = {
        "count(0..6) of(0..2,0..6) told(0..7,0..5) sort(0..20) holds(0..7) odds(0..1) packing(-1..7) doubled() leave(0..1)",
        "rolls(0..7) run(-1..7) hands(0,1,0..1) seed(5)",
        "undo() count(3) of(0,1..3) told(0..2,5) seed(5) undo() count(3) of(0,1..3) told(0..2,5) seed(5)",
        "undo() count(3) of(0,1..3) told(0..2,5) seed(5) undo() count(3) of(0,1..3) told(0..2,5) seed(5) 5*undo()",
        "type(50) shop() told(0,0) restore() count(0..6) of(0..2,0..6) told(0..4,5) seed(5) sort(0..20) undo() count(3) of(0,1..3) 2*undo()",
        "way[..] shop[C;1] sagged(0,0..3,0..3,0,1,0) sagged(0,0,0,0..5,1,1) sagged(0,1,1,0..4,1,1) sagged(0,2,2,0..3,1,1) drop(0..3)"};

    public static void main(String[] args) {
        theProbeSees();
        bags();
        texts();
        steps();
        whatComes();
        sheets();
        full();
        torn();
        asked();
        film();
        Check.end("RefusedTest");
    }

    private static List<Long> seenBehind(String say, String... lines) {
        return new Calls(say).go(lines).answers(PROBE);
    }

    /** Each of the calls, told with the answer that is due, alone behind the setup. */
    private static void unchanged(String setup, String calls) {
        for (String call : calls.trim().split(" +")) {
            List<Long> due = seenBehind(call, setup);
            List<Long> got = seenBehind(call, setup, call);
            Check.holds("behind " + call + " all is as it was", got.equals(due));
        }
    }

    /** Without this the other tests here could hold by a probe that sees nothing. */
    private static void theProbeSees() {
        String calls = "set(0,0,1) set(2,1,1) give(4) give(2) pack(4,2) again() step() undo() seed(1) type(32) way() shop() way[.] image() restore()"
            + " drop(0) drop(2) sheet(3,3,1) sheet(0,0,6) item(0,0,4,2) item(1,1,0,1) item(2,2,1,7) copy(0,0,0,0,0) copy(1,1,1,2,1) thing(1,0,0,0,0)";
        for (String call : calls.split(" ")) {
            boolean isSeen = !seenBehind(call, LIVE + TAPE).equals(seenBehind(call, LIVE + TAPE, call));
            Check.holds("behind " + call + " not all is as it was", isSeen || call.equals("copy(0,0,0,0,0)") || call.equals("give(4)"));
        }
        Check.holds("calls of a probe", new Calls("probe").go(LIVE + TAPE).go(PROBE).made() <= Calls.MOST);
    }

    private static void bags() {
        unchanged(LIVE + TAPE, "bag(-1)=BAD bag(4)=BAD bag(0)=FULL thing(0,0,0,0,0)=BAD thing(31,0,0,0,0)=BAD thing(1,6,0,0,0)=BAD thing(1,0,6,0,0)=BAD"
            + " thing(1,0,0,100,0)=BAD thing(1,0,0,0,2)=BAD pack(5,0)=BAD pack(-1,0)=BAD pack(0,3)=BAD pack(0,-1)=BAD give(5)=BAD give(-1)=BAD"
            + " of(3,0)=BAD of(0,7)=BAD strength(3,0)=BAD strength(0,4)=BAD force(3,0,0)=BAD force(0,4,0)=BAD force(0,0,8)=BAD told(5,0)=BAD told(0,6)=BAD"
            + " set(3,0,1)=BAD set(0,2,1)=BAD set(0,-1,1)=BAD set(0,0,1000)=BAD set(0,0,-1)=BAD set(0,1,1000)=BAD set(0,1,-1)=BAD");
    }

    /** A fault leaves all but the tape, which is empty then. */
    private static void texts() {
        unchanged(LIVE + TAPE, "type(31)=BAD type(127)=BAD type(-1)=BAD sort(7)=BAD sort(-1)=BAD count(7)=BAD count(-1)=BAD");
        unchanged(LIVE, "way()=-20 shop()=-20 way[x]=-20 way[u.bx]=-23 way[.....................]=-40 shop[D]=-21 shop[D,D;30w5e5r@1,x]=-34 shop[D,D;30w5e5r@2]=-32"
            + " shop[D;1,1,1,1,1,1,1,1,1]=-37 shop[D,D,D,D;1]=-25");
    }

    private static void steps() {
        unchanged(LIVE + TAPE, "seed(-1)=BAD seed(LOW)=BAD");
        unchanged(LIVE + TAPE + "4*step() ", "step()=NOT");
        unchanged(LIVE + TAPE + "3*undo() ", "undo()=NONE");
        unchanged("way[b] shop[P,P,P;30w1@0,2] step() set(0,0,9) " + TAPE, "restore()=NONE");
        unchanged(TAPE, "step()=NOT undo()=NONE again()=0 restore()=NONE");
    }

    private static void whatComes() {
        unchanged(LIVE + TAPE, "holds(8)=BAD holds(-1)=BAD odds(2)=BAD odds(-1)=BAD packing(-2)=BAD packing(5)=BAD packing(2)=NONE doubled()=NONE leave(2)=BAD"
            + " rolls(5)=BAD rolls(0)=NOT rolls(1)=NOT run(-2)=BAD run(8)=BAD run(1)=NONE hands(0,0,0)=BAD hands(3,0,0)=BAD hands(0,1,2)=BAD"
            + " torn(3,1,0)=BAD torn(0,0,0)=BAD torn(0,32,0)=BAD torn(0,1,2)=BAD torn(0,4,1)=NONE");
    }

    private static void sheets() {
        unchanged(LIVE + TAPE, "sagged(3,0,0,0,1,0)=BAD sagged(0,0,0,0,9,0)=BAD sagged(0,0,0,0,5,0)=BAD sagged(0,3,0,0,1,0)=NULL sagged(0,0,1,0,1,0)=CAST sagged(0,0,0,5,1,0)=INDEX"
            + " sagged(0,0,0,0,1,1)=25 film(8,0,0,0)=BAD film(0,3,0,0)=NULL film(0,0,1,0)=CAST film(0,0,0,2)=INDEX film(0,0,0,-1)=INDEX film(0,2,2,0)=INDEX"
            + " sheet(4,0,1)=BAD sheet(0,4,1)=BAD sheet(0,1,25)=BAD sheet(0,1,-1)=SIZE sheet(3,1,-1)=SIZE drop(4)=BAD drop(3)=NULL"
            + " item(4,0,0,1)=BAD item(3,0,0,1)=NULL item(0,1,0,1)=CAST item(0,0,5,1)=INDEX item(0,0,-1,1)=INDEX"
            + " copy(4,0,0,0,1)=BAD copy(0,0,3,0,1)=NULL copy(3,0,0,0,1)=NULL copy(0,0,1,0,1)=CAST copy(0,0,0,1,5)=INDEX copy(0,1,0,0,5)=INDEX copy(0,0,0,1,-1)=INDEX");
    }

    private static void full() {
        String eight = "way[bbbbb.] shop[C,C,C;1r@0,1r@0,1r@0,1r@0,1r@0,1r@0,1r@0,1] ";
        unchanged(eight + TAPE, "bag(0)=FULL thing(1,0,0,0,0)=FULL odds(0)=FULL odds(1)=FULL packing(-1)=FULL packing(7)=FULL");
        unchanged(eight + "step()=0 " + TAPE, "bag(0)=FULL thing(1,0,0,0,0)=FULL");
        unchanged(eight + "set(0,1,99) step()=127 " + TAPE, "run(-1)=FULL run(0)=FULL pack(7,0)=NOT packing(-1)=BAD rolls(7)=NOT");
        unchanged("way[.] shop[P;1] 100*type(32) ", "type(46)=FULL type(32)=FULL");
    }

    private static void torn() {
        unchanged("way[..] shop[P,C;30@0,2] set(0,0,40) step()=1 " + TAPE, "pack(0,0)=NOT pack(1,0)=NOT packing(-1)=BAD packing(0)=BAD packing(1)=BAD");
        unchanged("way[...] shop[P,C;30@0,2] set(0,1,45) 2*step()=0,1 " + TAPE, "pack(0,0)=NOT pack(1,0)=NOT packing(-1)=BAD");
    }

    private static void asked() {
        unchanged(LIVE + TAPE, "holds(0) holds(7) odds(0) odds(1) packing(-1) packing(0) doubled() leave(0) leave(1) rolls(2) run(-1) run(0) hands(0,1,0) hands(1,2,1)"
            + " torn(0,1,0) torn(0,3,1) sagged(0,0,0,0,4,0) sagged(1,0,0,0,4,1) of(0,6) strength(0,0) force(0,0,7) told(0,5) sort(1) count(6)");
    }

    /** A film changes its sheet alone. */
    private static void film() {
        List<Long> due = seenBehind("film", LIVE + TAPE + "sheet(3,0,24) drop(3)");
        List<Long> got = seenBehind("film", LIVE + TAPE + "sheet(3,0,24) film(7,3,0,5)=4 drop(3)");
        Check.holds("behind a film all but its sheet is as it was", got.equals(due));
    }
}
