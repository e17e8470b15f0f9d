import java.util.function.IntToLongFunction;

/** The terms that go for many calls, each asked of every call that it goes for. */
public final class EdgesTermsTest extends Bench {
    private static final Due DUE = new Due("EdgesTermsTest");
    private static final String EIGHT = "r111h;r111h;r111h;r111h;r111h;r111h;r111h;r111h";

    private EdgesTermsTest() {
    }

    public static void main(String[] args) {
        noSuchTooth();
        noSuchLine();
        noSuchFlaw();
        noSuchSheet();
        outside();
        outsideLane();
        nothing();
        otherLane();
        otherKind();
        lengthBelowZero();
        noneTaken();
        sets();
        codes();
        bodies();
        shortLines();
        DUE.end();
    }

    private static void due(String call, long got, long want) {
        DUE.is(call, got, want);
    }

    private static void says(String words) {
        DUE.says(words);
    }

    /** A number from least to most: those beside it, and far ones, get an answer that these do not. */
    private static void bounded(String call, IntToLongFunction ask, int least, int most, long wrong) {
        int[] beyond = {least - 1, most + 1, most + 2, most + 256, most + 65536, MIN, MIN + most + 1, MAX};
        for (int v : beyond) {
            due(call + " " + v, ask.applyAsLong(v), wrong);
        }
        if (least <= most) {
            DUE.holds(call + " " + least + " is taken", ask.applyAsLong(least) != wrong);
            DUE.holds(call + " " + most + " is taken", ask.applyAsLong(most) != wrong);
        }
    }

    private static void noSuchTooth() {
        says("UNKNOWN (there is no such TOOTH, LINE, FLAW, SHEET)");
        String[] saws = {"", "r111h", EIGHT};
        int[] last = {-1, 0, 7};
        for (int s = 0; s < 3; s++) {
            SawLine x = withSaw(saws[s]);
            bounded("ofTooth", k -> x.ofTooth(k, 0), 0, last[s], UNKNOWN);
            bounded("set", k -> x.set(k, 0, 1), 0, last[s], UNKNOWN);
            bounded("flaw", k -> x.flaw(k, 0, 1), 0, last[s], UNKNOWN);
            bounded("act", k -> x.act(k, 2), 0, last[s], UNKNOWN);
            bounded("tell", k -> x.tell(k), 0, last[s], UNKNOWN);
            bounded("joint", k -> x.joint(k), 0, last[s], UNKNOWN);
            bounded("as", k -> x.as(k, 2), 0, last[s], UNKNOWN);
        }
    }

    private static void noSuchLine() {
        says("UNKNOWN: LINE");
        for (int count : new int[] {0, 1, 24}) {
            SawLine x = with("r111", "180".repeat(count));
            bounded("ofLine", t -> x.ofLine(t, 0), 0, count - 1, UNKNOWN);
            bounded("where", t -> x.where(t), 0, count - 1, LOST);
            bounded("heading", t -> x.heading(t), 0, count - 1, LOST);
            bounded("marks", t -> x.marks(t), 0, count - 1, UNKNOWN);
            bounded("which", t -> x.which(t, 0), 0, count - 1, UNKNOWN);
            bounded("reading", t -> x.reading(t, 0), 0, count - 1, UNKNOWN);
        }
    }

    private static void noSuchFlaw() {
        says("UNKNOWN (there is no such TOOTH, LINE, FLAW, SHEET)");
        SawLine x = with("r111", "140");
        for (int count = 0; count <= 6; count++) {
            bounded("ofFlaw", q -> x.ofFlaw(q, 2), 0, count - 1, UNKNOWN);
            bounded("each", q -> x.each(q), 0, count - 1, UNKNOWN);
            x.flaw(0, 0, 1);
        }
    }

    private static SawLine withSheets() {
        SawLine x = new SawLine();
        for (int k = 0; k < 4; k++) {
            x.sheet(k, 2, 2);
        }
        return x;
    }

    private static void noSuchSheet() {
        says("UNKNOWN: SHEET");
        SawLine x = withSheets();
        bounded("saw", k -> x.saw(k, 2, 0, 2), 0, 3, UNKNOWN);
        bounded("board", k -> x.board(k, 2, 0, 2), 0, 3, UNKNOWN);
        bounded("log", k -> x.log(k, 2, 0, 2, 0), 0, 3, UNKNOWN);
        bounded("put", k -> x.put(k, 0, 0), 0, 3, UNKNOWN);
        bounded("cell", k -> x.cell(k, 0, 2), 0, 3, LOST);
        bounded("copy from", k -> x.copy(k, 0, 1, 0, 2), 0, 3, UNKNOWN);
        bounded("copy to", k -> x.copy(1, 0, k, 0, 2), 0, 3, UNKNOWN);
        bounded("sheet", k -> x.sheet(k, 2, 2), 0, 3, UNKNOWN);
        bounded("lose", k -> x.lose(k), 0, 3, UNKNOWN);
    }

    private static void outside() {
        says("OUTSIDE (another number is not as told)");
        SawLine x = with("r111h", "140");
        x.flaw(0, 0, 1);
        bounded("ofTooth", what -> x.ofTooth(0, what), 0, 6, OUTSIDE);
        bounded("set by what", what -> x.set(0, what, 1), 0, 2, OUTSIDE);
        bounded("set by v", v -> x.set(0, 0, v), 0, 9, OUTSIDE);
        bounded("ofSaw", what -> x.ofSaw(what), 0, 2, OUTSIDE);
        bounded("ofLine", what -> x.ofLine(0, what), 0, 2, OUTSIDE);
        bounded("hand by LEAN", lean -> x.hand(lean, 0, 0), -9, 9, OUTSIDE);
        bounded("hand by STEERS", steers -> x.hand(0, steers, 0), 0, 9, OUTSIDE);
        bounded("hand by LATE", late -> x.hand(0, 0, late), 0, 5, OUTSIDE);
        bounded("ofHand", what -> x.ofHand(what), 0, 2, OUTSIDE);
        bounded("fence", v -> x.fence(v), 0, 99, OUTSIDE);
        bounded("straightest", what -> with("c111", "140").straightest(what), 0, 3, OUTSIDE);
        bounded("flaw by what", what -> withSaw("c111").flaw(0, what, 1), 0, 2, OUTSIDE);
        bounded("flaw by v", v -> withSaw("c111").flaw(0, 0, v), 0, 9, OUTSIDE);
        bounded("ofFlaw", what -> x.ofFlaw(0, what), 0, 2, OUTSIDE);
        bounded("likely", what -> x.likely(what), 0, 1, OUTSIDE);
        bounded("act", act -> x.act(0, act), 0, 3, OUTSIDE);
        bounded("mend by m", m -> x.mend(m, 0), 0, 9999, OUTSIDE);
        bounded("as", kind -> x.as(0, kind), 0, 2, OUTSIDE);
        bounded("many", what -> x.many(what), 0, 4, OUTSIDE);
        SawLine read = withBoard("140");
        bounded("back of none", k -> read.back(k), 0, 0, OUTSIDE);
        read.reading(0, 0);
        read.reading(0, 0);
        // Taking both back comes last: then there are none.
        bounded("back of two", k -> read.back(k), 0, 2, OUTSIDE);
        due("READINGS then", read.many(3), 0);
    }

    private static void outsideLane() {
        says("OUTSIDE: lane");
        SawLine x = withSheets();
        bounded("sheet", lane -> x.sheet(0, lane, 2), 0, 2, OUTSIDE);
        bounded("saw", lane -> x.saw(0, lane, 0, 2), 0, 2, OUTSIDE);
        bounded("board", lane -> x.board(0, lane, 0, 2), 0, 2, OUTSIDE);
        bounded("log", lane -> x.log(0, lane, 0, 2, 0), 0, 2, OUTSIDE);
        for (int lane : new int[] {-1, 3, MIN, MAX}) {
            x.put(0, 2, 0);
            due("cell", x.cell(0, 0, lane), LOST);
            due("fault() of a refused cell", x.fault(), 0);
        }
        says("OUTSIDE: n is not 2 .. 7, a STRAIN");
        SawLine y = new SawLine();
        y.sheet(0, 2, 80);
        for (int n = 0; n <= 80; n++) {
            due("log of " + n, y.log(0, 2, 0, n, -1), n >= 2 && n <= 7 ? 0 : OUTSIDE);
        }
        bounded("a STRAIN", v -> y.put(0, 0, v) + y.log(0, 2, 0, 2, -1), -9, 9, 1 + OUTSIDE);
    }

    private static void faultDue(String call, SawLine x, long got, int fault) {
        due(call, got, -10 - fault);
        due("fault() of " + call, x.fault(), fault);
        due("a call that comes to none", x.sheet(3, 0, 1), 1);
        due("fault() then", x.fault(), 0);
    }

    private static void nothing() {
        says("1 NULL (there is nothing)");
        for (int k = 0; k < 3; k++) {
            for (int lane = 0; lane < 3; lane++) {
                SawLine x = new SawLine();
                faultDue("saw", x, x.saw(k, lane, 0, 0), 1);
                faultDue("board", x, x.board(k, lane, 0, 0), 1);
                faultDue("log", x, x.log(k, lane, 0, 2, 0), 1);
                faultDue("put", x, x.put(k, 0, 0), 1);
                faultDue("copy from it", x, x.copy(k, 0, 3, 0, 0), 1);
                faultDue("copy to it", x, x.copy(3, 0, k, 0, 0), 1);
                due("cell", x.cell(k, 0, lane), LOST);
                due("fault() of cell", x.fault(), 1);
                x.sheet(k, lane, 0);
                due("no cells are not nothing", x.saw(k, lane, 0, 0), -100);
                x.lose(k);
                faultDue("saw of what was lost", x, x.saw(k, lane, 0, 0), 1);
            }
        }
    }

    private static void otherLane() {
        says("2 CAST (it is of another LANE, kind)");
        for (int has = 0; has < 3; has++) {
            for (int lane = 0; lane < 3; lane++) {
                SawLine x = new SawLine();
                x.sheet(0, has, 2);
                x.sheet(1, lane, 2);
                int fault = has == lane ? 0 : 2;
                due("saw", x.saw(0, lane, 0, 2), fault == 0 ? -100 : CAST);
                due("fault()", x.fault(), fault);
                due("board", x.board(0, lane, 0, 2), fault == 0 ? -100 : CAST);
                due("fault()", x.fault(), fault);
                due("log", x.log(0, lane, 0, 2, 0), fault == 0 ? 0 : CAST);
                due("fault()", x.fault(), fault);
                due("cell", x.cell(0, 0, lane), fault == 0 ? 0 : LOST);
                due("fault()", x.fault(), fault);
                due("copy", x.copy(0, 0, 1, 0, 2), fault == 0 ? 2 : CAST);
                due("fault()", x.fault(), fault);
                x.sheet(0, lane, 2);
                due("a new row is of its own LANE", x.cell(0, 0, lane), 0);
            }
        }
    }

    private static void otherKind() {
        says("CAST: it is none.");
        String[] saws = {"c111", "l111", "r111", "l111h", "r111h"};
        int[] kinds = {0, 1, 1, 2, 2};
        for (int s = 0; s < saws.length; s++) {
            SawLine x = withSaw(saws[s]);
            for (int kind = 0; kind < 3; kind++) {
                due(saws[s] + " as " + kind, x.as(0, kind), kind <= kinds[s] ? 1 : CAST);
                due("fault()", x.fault(), kind <= kinds[s] ? 0 : 2);
            }
        }
    }

    private static void lengthBelowZero() {
        says("4 SIZE (a length below 0)");
        SawLine x = withSheets();
        for (int n : new int[] {-1, -2, MIN}) {
            faultDue("saw", x, x.saw(0, 2, 0, n), 4);
            faultDue("board", x, x.board(0, 2, 0, n), 4);
            faultDue("log", x, x.log(0, 2, 0, n, 0), 4);
            faultDue("sheet", x, x.sheet(0, 2, n), 4);
            faultDue("copy has no SIZE", x, x.copy(0, 0, 1, 0, n), 3);
        }
        due("a length of 0", x.sheet(0, 2, 0), 1);
    }

    private static void noneTaken() {
        says("3 INDEX (of cells from i on also where i is not 0 .. how many there are, if none of them is taken, too)");
        for (int size : new int[] {0, 1, 5, 80}) {
            SawLine x = new SawLine();
            x.sheet(0, 1, size);
            x.sheet(1, 1, 0);
            bounded("saw of none", i -> x.saw(0, 1, i, 0), 0, size, INDEX);
            bounded("board of none", i -> x.board(0, 1, i, 0), 0, size, INDEX);
            bounded("log of none", i -> x.log(0, 1, i, 0, 0), 0, size, INDEX);
            bounded("copy of none from it", i -> x.copy(0, i, 1, 0, 0), 0, size, INDEX);
            bounded("copy of none to it", i -> x.copy(1, 0, 0, i, 0), 0, size, INDEX);
            bounded("put", i -> x.put(0, i, 0), 0, size - 1, INDEX);
            bounded("cell", i -> x.cell(0, i, 1), 0, size - 1, LOST);
            bounded("copy of one", i -> x.copy(0, i, 0, 0, 1), 0, size - 1, INDEX);
        }
    }

    private static void sets() {
        says("Sets are told as bits (bit k for number k).");
        for (int k = 0; k < 8; k++) {
            SawLine x = with("c111;c111;c111;c111;c111;c111;c111;c111", "140");
            for (int other = 0; other < 8; other++) {
                x.set(other, 1, other == k ? 1 : 0);
            }
            due("TOOTH " + k + " alone", x.which(0, 0), 1 << k);
        }
        for (int q = 0; q < 6; q++) {
            SawLine x = with("r011", "140");
            for (int other = 0; other < 6; other++) {
                x.flaw(0, 0, other == q ? 9 : 1);
            }
            x.set(0, 1, 2);
            // PUSH 18 by the FLAW q alone, 2 by the others.
            x.reading(0, 1);
            due("FLAW " + q + " alone", x.likely(1), 1 << q);
        }
    }

    private static void codes() {
        says("(Codes: l 108, c 99, r 114, h 104, ; 59, digits 48 .. 57.)");
        SawLine x = new SawLine();
        writeCodes(x, 0, 0, 108, 48, 49, 50, 104, 59, 99, 51, 52, 53, 59, 114, 54, 55, 56, 59, 108, 57, 57, 57);
        due("saw", x.saw(0, 0, 0, 20), 4);
        int[][] want = {{2, -1, 0, 1, 2}, {0, 0, 3, 4, 5}, {1, 1, 6, 7, 8}, {1, -1, 9, 9, 9}};
        for (int k = 0; k < 4; k++) {
            for (int what = 0; what < 5; what++) {
                due("ofTooth(" + k + ", " + what + ")", x.ofTooth(k, what), want[k][what]);
            }
        }
        writeCodes(x, 0, 0, 49, 48, 48, 57, 56, 57);
        due("board", x.board(0, 0, 0, 6), 2);
        due("HARD", x.ofLine(0, 0), 1);
        due("GRAIN", x.ofLine(0, 1), -4);
        due("CLOSES", x.ofLine(1, 2), 9);
    }

    private static void bodies() {
        says("by bodies that leave their number in TRACE");
        SawLine x = withSaw("r119h");
        x.tell(0);
        due("HOOKED, BENT, TOOTH, TOOTH, as they begin", x.trace(), 31 * (31 * (31 * 3 + 2) + 1) + 1);
        SawLine y = withSaw("r119");
        y.tell(0);
        due("BENT, TOOTH, as they begin", y.trace(), 31 * 2 + 1);
    }

    private static void shortLines() {
        says("A HAND: 1. OUTSIDE.");
        SawLine x = with("c111", "150149");
        due("hand(-9, 0, 0)", x.hand(-9, 0, 0), 1);
        due("hand(-10, 0, 0)", x.hand(-10, 0, 0), OUTSIDE);
        says("HEADING behind a LINE. LOST: as where().");
        due("heading(0)", x.heading(0), -8);
        due("heading(1)", x.heading(1), LOST);
        due("heading(2)", x.heading(2), LOST);
        due("heading(-1)", x.heading(-1), LOST);
        due("heading(0) without a SAW", withBoard("140").heading(0), LOST);
        due("heading(0) without a BOARD", withSaw("c111").heading(0), LOST);
        says("in how many each FLAW is.");
        due("each(0) of none", x.each(0), UNKNOWN);
        x.flaw(0, 0, 1);
        due("each(0) of {} and {0}", x.each(0), 1);
        x.reading(1, 0);
        due("each(0) where none FITS", x.each(0), 0);
        says("The cheapest row by m (0 .. 9999)");
        due("m 0", with("c111", "140").mend(0, -1), 0);
        due("m 9999", with("c111", "140").mend(9999, -1), 0);
        due("m -1", with("c111", "140").mend(-1, -1), OUTSIDE);
        due("m 10000", with("c111", "140").mend(10000, -1), OUTSIDE);
        says("all cuts between them, one after another");
        SawLine y = new SawLine();
        writeCodes(y, 0, 2, 1, -1);
        due("the one cut", y.log(0, 2, 0, 2, 0), 0);
        due("a second", y.log(0, 2, 0, 2, 1), NONE);
    }
}
