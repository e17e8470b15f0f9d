import java.util.ArrayList;
import java.util.List;
import java.util.function.ToLongFunction;

/**
 * Refused calls, calls that come to a fault, and calls that only answer change nothing but fault(): two
 * objects are made alike, one gets the call, and then both are asked for all there is to be asked.
 */
public final class UntouchedTest extends Bench {
    private static final Due DUE = new Due("UntouchedTest");
    private static final int INDEX_FAULT = 3;

    private record Call(String name, boolean namesFaults, ToLongFunction<SawLine> ask) {
    }

    private UntouchedTest() {
    }

    public static void main(String[] args) {
        DUE.says("They change nothing (but fault(), of a call that names FAULTS).");
        for (Call call : refused()) {
            twins(call, true);
            bareTwins(call);
        }
        DUE.says("0: it came to none, or was refused");
        for (Call call : answering()) {
            twins(call, false);
        }
        DUE.end();
    }

    private static Call faulty(String name, ToLongFunction<SawLine> ask) {
        return new Call(name, true, ask);
    }

    private static Call plain(String name, ToLongFunction<SawLine> ask) {
        return new Call(name, false, ask);
    }

    /** As much of everything as there may be, and a fault of the latest call that names one. */
    private static void furnish(SawLine x) {
        saw(x, "l345;c222;r134h");
        board(x, "150160149");
        x.lose(3);
        writeCodes(x, 0, 0, 7, -8);
        write(x, 1, 1, "940x");
        write(x, 2, 2, "c999;x");
        x.hand(8, 3, 1);
        x.fence(50);
        for (int q = 0; q < 6; q++) {
            x.flaw(q % 3, q % 3, 9 - q);
        }
        for (int r = 0; r < 8; r++) {
            x.reading(r % 2, (int) x.where(r % 2));
        }
        x.tell(2);
        x.put(0, 2, 0);
    }

    private static List<Call> refused() {
        List<Call> calls = new ArrayList<>();
        refusedTexts(calls);
        refusedOfCut(calls);
        refusedOfFlaws(calls);
        refusedSheets(calls);
        refusedParts(calls);
        return calls;
    }

    private static void refusedTexts(List<Call> calls) {
        int[][] cells = {{-1, 0, 0, 1}, {4, 0, 0, 1}, {0, 3, 0, 1}, {0, -1, 0, 1}, {0, 1, 0, 1}, {3, 0, 0, 1},
            {0, 0, 0, -1}, {0, 0, 0, 3}, {0, 0, -1, 1}, {0, 0, 3, 0}, {0, 0, 0, 2}, {0, 0, 0, 0}, {2, 2, 0, 6},
            {2, 2, 0, 5}, {2, 2, 0, 3}, {1, 1, 0, 4}, {1, 1, 0, 2}, {1, 1, 3, 1}};
        for (int[] c : cells) {
            String of = "(" + c[0] + ", " + c[1] + ", " + c[2] + ", " + c[3] + ")";
            calls.add(faulty("saw" + of, x -> x.saw(c[0], c[1], c[2], c[3])));
            calls.add(faulty("board" + of, x -> x.board(c[0], c[1], c[2], c[3])));
            // Of all these cells 7, -8 alone are slabs: a q that is none refuses them too.
            calls.add(faulty("log" + of + " 6", x -> x.log(c[0], c[1], c[2], c[3], 6)));
        }
        calls.add(faulty("log(0, 0, 0, 2, -2)", x -> x.log(0, 0, 0, 2, -2)));
        calls.add(faulty("log(2, 2, 0, 2, 0)", x -> x.log(2, 2, 0, 2, 0)));
    }

    private static void refusedOfCut(List<Call> calls) {
        calls.add(plain("ofTooth(3, 0)", x -> x.ofTooth(3, 0)));
        calls.add(plain("ofTooth(0, 7)", x -> x.ofTooth(0, 7)));
        calls.add(plain("set(3, 0, 1)", x -> x.set(3, 0, 1)));
        calls.add(plain("set(-1, 0, 1)", x -> x.set(-1, 0, 1)));
        for (int what = 0; what < 3; what++) {
            int w = what;
            calls.add(plain("set(0, " + w + ", 10)", x -> x.set(0, w, 10)));
            calls.add(plain("set(2, " + w + ", -1)", x -> x.set(2, w, -1)));
        }
        calls.add(plain("set(0, 3, 1)", x -> x.set(0, 3, 1)));
        calls.add(plain("set(0, -1, 1)", x -> x.set(0, -1, 1)));
        calls.add(plain("ofSaw(3)", x -> x.ofSaw(3)));
        calls.add(plain("ofLine(3, 0)", x -> x.ofLine(3, 0)));
        calls.add(plain("ofLine(0, 3)", x -> x.ofLine(0, 3)));
        int[][] hands = {{10, 1, 0}, {-10, 1, 0}, {1, 10, 0}, {1, -1, 0}, {1, 1, 6}, {1, 1, -1}};
        for (int[] h : hands) {
            calls.add(plain("hand(" + h[0] + ", " + h[1] + ", " + h[2] + ")", x -> x.hand(h[0], h[1], h[2])));
        }
        calls.add(plain("ofHand(3)", x -> x.ofHand(3)));
        calls.add(plain("fence(100)", x -> x.fence(100)));
        calls.add(plain("fence(-1)", x -> x.fence(-1)));
        calls.add(plain("where(3)", x -> x.where(3)));
        calls.add(plain("where(2)", x -> x.where(2)));
        calls.add(plain("heading(-1)", x -> x.heading(-1)));
        calls.add(plain("heading(2)", x -> x.heading(2)));
        calls.add(plain("marks(3)", x -> x.marks(3)));
        calls.add(plain("marks(2)", x -> x.marks(2)));
        calls.add(plain("which(3, 0)", x -> x.which(3, 0)));
        calls.add(plain("which(2, 0)", x -> x.which(2, 0)));
        calls.add(plain("straightest(4)", x -> x.straightest(4)));
    }

    private static void refusedOfFlaws(List<Call> calls) {
        calls.add(plain("flaw(3, 0, 1)", x -> x.flaw(3, 0, 1)));
        calls.add(plain("flaw(0, 3, 1)", x -> x.flaw(0, 3, 1)));
        calls.add(plain("flaw(0, 0, 10)", x -> x.flaw(0, 0, 10)));
        calls.add(plain("flaw(0, 0, 1)", x -> x.flaw(0, 0, 1)));
        calls.add(plain("ofFlaw(6, 0)", x -> x.ofFlaw(6, 0)));
        calls.add(plain("ofFlaw(0, 3)", x -> x.ofFlaw(0, 3)));
        calls.add(plain("reading(3, 99)", x -> x.reading(3, 99)));
        calls.add(plain("reading(0, 99)", x -> x.reading(0, 99)));
        calls.add(plain("back(9)", x -> x.back(9)));
        calls.add(plain("back(-1)", x -> x.back(-1)));
        calls.add(plain("back(MIN)", x -> x.back(MIN)));
        calls.add(plain("likely(2)", x -> x.likely(2)));
        calls.add(plain("each(6)", x -> x.each(6)));
        calls.add(plain("act(3, 0)", x -> x.act(3, 0)));
        calls.add(plain("act(0, 4)", x -> x.act(0, 4)));
        calls.add(plain("act(0, -1)", x -> x.act(0, -1)));
        calls.add(plain("mend(-1, 0)", x -> x.mend(-1, 0)));
        calls.add(plain("mend(0, 2)", x -> x.mend(0, 2)));
    }

    private static void refusedSheets(List<Call> calls) {
        int[][] rows = {{4, 0, 1}, {-1, 0, 1}, {0, 3, 1}, {0, -1, 1}, {0, 0, 81}, {0, 1, -1}, {3, 1, -1}, {3, 3, 5}};
        for (int[] r : rows) {
            calls.add(faulty("sheet(" + r[0] + ", " + r[1] + ", " + r[2] + ")", x -> x.sheet(r[0], r[1], r[2])));
        }
        calls.add(plain("lose(4)", x -> x.lose(4)));
        calls.add(plain("lose(-1)", x -> x.lose(-1)));
        int[][] puts = {{4, 0}, {-1, 0}, {3, 0}, {0, 2}, {0, -1}, {1, 4}, {2, 6}, {2, MAX}};
        for (int[] p : puts) {
            calls.add(faulty("put(" + p[0] + ", " + p[1] + ", 99)", x -> x.put(p[0], p[1], 99)));
        }
        int[][] cells = {{4, 0, 0}, {0, 0, 3}, {0, 0, 1}, {3, 0, 0}, {0, 2, 0}, {0, -1, 0}};
        for (int[] c : cells) {
            calls.add(faulty("cell(" + c[0] + ", " + c[1] + ", " + c[2] + ")", x -> x.cell(c[0], c[1], c[2])));
        }
        int[][] copies = {{4, 0, 0, 0, 1}, {0, 0, 4, 0, 1}, {3, 0, 0, 0, 1}, {0, 0, 3, 0, 1}, {0, 0, 1, 0, 1},
            {0, 0, 0, 1, 2}, {0, 1, 0, 0, 2}, {2, 3, 2, 0, 4}, {2, 0, 2, 3, 4}, {2, -1, 2, 0, 2}, {2, 0, 2, 0, -1},
            {2, 0, 2, 7, 0}};
        for (int[] c : copies) {
            calls.add(faulty("copy(" + c[0] + ", " + c[1] + ", " + c[2] + ", " + c[3] + ", " + c[4] + ")",
                    x -> x.copy(c[0], c[1], c[2], c[3], c[4])));
        }
    }

    private static void refusedParts(List<Call> calls) {
        calls.add(plain("tell(3)", x -> x.tell(3)));
        calls.add(plain("tell(-1)", x -> x.tell(-1)));
        calls.add(plain("joint(3)", x -> x.joint(3)));
        calls.add(faulty("as(3, 0)", x -> x.as(3, 0)));
        calls.add(faulty("as(0, 3)", x -> x.as(0, 3)));
        calls.add(faulty("as(0, 2)", x -> x.as(0, 2)));
        calls.add(faulty("as(1, 1)", x -> x.as(1, 1)));
        calls.add(plain("many(5)", x -> x.many(5)));
        calls.add(plain("many(-1)", x -> x.many(-1)));
    }

    /** Calls that are taken, and answer, but leave all as it was; acts that are none among them. */
    private static List<Call> answering() {
        List<Call> calls = new ArrayList<>();
        calls.add(plain("set(0, 0, 3)", x -> x.set(0, 0, 3)));
        calls.add(plain("hand(8, 3, 1)", x -> x.hand(8, 3, 1)));
        calls.add(plain("fence(50)", x -> x.fence(50)));
        calls.add(plain("where(1)", x -> x.where(1)));
        calls.add(plain("off()", x -> x.off()));
        calls.add(plain("pinched()", x -> x.pinched()));
        calls.add(plain("marks(0)", x -> x.marks(0)));
        calls.add(plain("which(1, 0)", x -> x.which(1, 0)));
        for (int what = 0; what < 4; what++) {
            int w = what;
            calls.add(plain("straightest(" + w + ")", x -> x.straightest(w)));
            calls.add(plain("mend(3, " + (w - 2) + ")", x -> x.mend(3, w - 2)));
        }
        calls.add(plain("back(0)", x -> x.back(0)));
        calls.add(plain("likely(0)", x -> x.likely(0)));
        calls.add(plain("likely(1)", x -> x.likely(1)));
        calls.add(plain("each(5)", x -> x.each(5)));
        calls.add(plain("act(1, 1)", x -> x.act(1, 1)));
        calls.add(plain("act(1, 2)", x -> x.act(1, 2)));
        calls.add(plain("lose(3)", x -> x.lose(3)));
        calls.add(plain("trace()", x -> x.trace()));
        calls.add(plain("fault()", x -> x.fault()));
        calls.add(plain("many(4)", x -> x.many(4)));
        calls.add(faulty("log(0, 0, 0, 2, -1)", x -> x.log(0, 0, 0, 2, -1)));
        calls.add(faulty("log(0, 0, 0, 2, 5)", x -> x.log(0, 0, 0, 2, 5)));
        calls.add(faulty("put(0, 1, 248)", x -> x.put(0, 1, 248)));
        calls.add(faulty("cell(1, 3, 1)", x -> x.cell(1, 3, 1)));
        calls.add(faulty("copy(2, 6, 2, 0, 0)", x -> x.copy(2, 6, 2, 0, 0)));
        calls.add(faulty("copy(2, 0, 2, 0, 6)", x -> x.copy(2, 0, 2, 0, 6)));
        calls.add(faulty("as(2, 1)", x -> x.as(2, 1)));
        return calls;
    }

    private static boolean isRefusal(long answer) {
        return answer <= UNKNOWN && answer >= FULL || answer <= NULL && answer >= SIZE || answer <= -100;
    }

    private static void faultDue(Call call, long answer, int before, SawLine x) {
        if (!call.namesFaults) {
            DUE.is("fault() behind " + call.name, x.fault(), before);
        } else if (answer != LOST) {
            DUE.is("fault() behind " + call.name, x.fault(), answer <= NULL && answer >= SIZE ? -10 - answer : 0);
        }
    }

    private static void twins(Call call, boolean refused) {
        SawLine x = new SawLine();
        SawLine y = new SawLine();
        furnish(x);
        furnish(y);
        DUE.is("the FAULT ahead of " + call.name, x.fault(), INDEX_FAULT);
        long answer = call.ask.applyAsLong(x);
        DUE.holds(call.name + " is refused or not, " + answer, isRefusal(answer) == refused);
        faultDue(call, answer, INDEX_FAULT, x);
        alike(call.name, x, y);
    }

    /** The same call on an object that has nothing yet: then, too, all that follows is as ever. */
    private static void bareTwins(Call call) {
        SawLine x = new SawLine();
        SawLine y = new SawLine();
        x.put(0, 0, 0);
        long answer = call.ask.applyAsLong(x);
        DUE.holds(call.name + " is refused where there is nothing, " + answer, isRefusal(answer));
        faultDue(call, answer, 1, x);
        for (int what = 0; what < 5; what++) {
            DUE.is("many(" + what + ") behind " + call.name, x.many(what), 0);
        }
        furnish(x);
        furnish(y);
        alike(call.name + " where there is nothing", x, y);
    }

    private static void alike(String name, SawLine x, SawLine y) {
        List<Long> got = new ArrayList<>();
        List<Long> want = new ArrayList<>();
        askAll(x, got);
        askAll(y, want);
        for (int i = 0; i < want.size(); i++) {
            DUE.is("answer " + i + " behind " + name, got.get(i), want.get(i));
        }
    }

    private static void askAll(SawLine x, List<Long> told) {
        askSawAndCut(x, told);
        askFlaws(x, told);
        askSheets(x, told);
        askByChanging(x, told);
    }

    private static void askSawAndCut(SawLine x, List<Long> told) {
        told.add((long) x.trace());
        for (int what = 0; what < 5; what++) {
            told.add((long) x.many(what));
        }
        for (int k = 0; k < 4; k++) {
            for (int what = 0; what < 7; what++) {
                told.add((long) x.ofTooth(k, what));
            }
        }
        for (int t = 0; t < 4; t++) {
            for (int what = 0; what < 3; what++) {
                told.add((long) x.ofLine(t, what));
            }
            told.add(x.where(t));
            told.add(x.heading(t));
            told.add((long) x.marks(t));
        }
        for (int what = 0; what < 3; what++) {
            told.add((long) x.ofSaw(what));
            told.add((long) x.ofHand(what));
        }
        told.add((long) x.off());
        told.add((long) x.pinched());
    }

    private static void askFlaws(SawLine x, List<Long> told) {
        for (int q = 0; q < 7; q++) {
            for (int what = 0; what < 3; what++) {
                told.add((long) x.ofFlaw(q, what));
            }
            told.add((long) x.each(q));
        }
        for (int what = 0; what < 4; what++) {
            told.add((long) x.straightest(what));
            told.add((long) x.mend(3, what - 2));
        }
    }

    private static void askSheets(SawLine x, List<Long> told) {
        for (int k = 0; k < 4; k++) {
            for (int lane = 0; lane < 3; lane++) {
                told.add(x.cell(k, 80, lane));
                told.add((long) x.fault());
                // A sheet of another lane has been told by its fault.
                for (int i = 0; i < 7 && lane == k; i++) {
                    told.add(x.cell(k, i, lane));
                }
            }
        }
    }

    /** What can be seen by taking it back, or by what comes next. */
    private static void askByChanging(SawLine x, List<Long> told) {
        told.add((long) x.reading(0, 0));
        told.add((long) x.flaw(0, 0, 0));
        for (int r = 0; r < 9; r++) {
            told.add((long) x.likely(0));
            told.add((long) x.likely(1));
            told.add((long) x.back(1));
        }
        told.add((long) x.reading(1, 0));
        told.add((long) x.fence(0));
        told.add((long) x.off());
        for (int k = 0; k < 4; k++) {
            told.add((long) x.lose(k));
            told.add((long) x.tell(k));
            told.add((long) x.joint(k));
        }
        told.add((long) x.trace());
    }
}
