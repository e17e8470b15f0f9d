import java.util.function.Supplier;

/**
 * Of several refusals and faults the first that a call's line tells: each call with all mixtures of
 * numbers at its bounds, good and wrong, against the line's own order.
 */
public final class FirstToldTest extends Bench {
    private static final Due DUE = new Due("FirstToldTest");
    private static final int FINE = 1;
    private static final int[] SHEETS = {-1, 0, 1, 2, 3, 4, MIN, MAX};
    private static final int[] LANES = {-1, 0, 1, 2, 3, MIN, MAX};
    private static final int[] CELLS = {-1, 0, 1, 2, 3, 4, MIN, MAX};
    private static final int[] FEW = {-1, 0, 1, 2, 3, MIN, MAX};

    private FirstToldTest() {
    }

    public static void main(String[] args) {
        DUE.says("of several the first in the order in which a call's line tells them.");
        teeth();
        lines();
        numbers();
        withoutAll();
        flawsAndReadings();
        DUE.says("Of a call the first that is come to, in the order told");
        texts();
        logs();
        sheets();
        cells();
        copies();
        kinds();
        DUE.end();
    }

    /** SHEET 0 has two bytes, 1 three shorts, 2 no ints, 3 nothing: laneOf, sizeOf tell it again. */
    private static SawLine withSheets() {
        SawLine x = with("c111;l111;r111h", "140150149");
        x.lose(3);
        writeCodes(x, 0, 0, 'x', 'x');
        writeCodes(x, 1, 1, 10, 0, 0);
        x.sheet(2, 2, 0);
        return x;
    }

    private static int laneOf(int k) {
        return k < 3 ? k : -1;
    }

    private static int sizeOf(int k) {
        return k == 0 ? 2 : k == 1 ? 3 : 0;
    }

    private static boolean in(long v, long least, long most) {
        return v >= least && v <= most;
    }

    /** A row of refusals in the order told: the first whose condition holds, else FINE. */
    private static int first(Object... told) {
        for (int i = 0; i < told.length; i += 2) {
            if ((Boolean) told[i]) {
                return (Integer) told[i + 1];
            }
        }
        return FINE;
    }

    private static void due(String call, long got, int told) {
        if (told == FINE) {
            DUE.holds(call + " is not refused, " + got, got > -10 && got != UNKNOWN && got != OUTSIDE && got != STATE);
        } else {
            DUE.is(call, got, told);
        }
    }

    private static void faultDue(String call, SawLine x, int told) {
        DUE.is("fault() behind " + call, x.fault(), told <= -11 && told >= -14 ? -10 - told : 0);
    }

    private static void teeth() {
        for (int k : CELLS) {
            SawLine x = withSheets();
            SawLine none = withBoard("140");
            for (int what : new int[] {-1, 0, 2, 3, 6, 7, MIN, MAX}) {
                String of = "(" + k + ", " + what + ")";
                // PUSHES of a tooth to the left is below 0, so what 6 is asked elsewhere.
                if (what != 6) {
                    int told = first(!in(k, 0, 2), UNKNOWN, !in(what, 0, 6), OUTSIDE);
                    due("ofTooth" + of, x.ofTooth(k, what), told);
                }
                due("ofTooth" + of + " of none", none.ofTooth(k, what), UNKNOWN);
                due("act" + of + " of none", none.act(k, what), UNKNOWN);
                int toldOfAct = first(!in(k, 0, 2), UNKNOWN, !in(what, 0, 3), OUTSIDE);
                due("act" + of, withSaw("c111;l111;r111h").act(k, what), toldOfAct);
                for (int v : new int[] {-1, 0, 9, 10, MIN, MAX}) {
                    int told = first(!in(k, 0, 2), UNKNOWN, !in(what, 0, 2) || !in(v, 0, 9), OUTSIDE);
                    due("set" + of + " " + v, x.set(k, what, v), told);
                    due("set" + of + " " + v + " of none", none.set(k, what, v), UNKNOWN);
                    due("flaw" + of + " " + v, withSaw("c111;l111;r111h").flaw(k, what, v), told);
                }
            }
        }
    }

    private static void lines() {
        SawLine x = withSheets();
        SawLine none = withBoard("140140140");
        for (int t : CELLS) {
            for (int what : FEW) {
                int told = first(!in(t, 0, 2), UNKNOWN, !in(what, 0, 2), OUTSIDE);
                due("ofLine(" + t + ", " + what + ")", x.ofLine(t, what), told);
                int ofCut = first(!in(t, 0, 2), UNKNOWN, t == 2, STATE);
                due("which(" + t + ", " + what + ")", x.which(t, what), ofCut);
                due("marks(" + t + ")", x.marks(t), ofCut);
                int ofNone = first(!in(t, 0, 2), UNKNOWN, true, STATE);
                due("which(" + t + ", " + what + ") of none", none.which(t, what), ofNone);
                due("marks(" + t + ") of none", none.marks(t), ofNone);
            }
        }
    }

    private static void numbers() {
        SawLine x = new SawLine();
        for (int lean : new int[] {-10, -9, 9, 10, MIN, MAX}) {
            for (int steers : new int[] {-1, 0, 9, 10, MIN, MAX}) {
                for (int late : new int[] {-1, 0, 5, 6, MIN, MAX}) {
                    int told = first(!in(lean, -9, 9) || !in(steers, 0, 9) || !in(late, 0, 5), OUTSIDE);
                    due("hand(" + lean + ", " + steers + ", " + late + ")", x.hand(lean, steers, late), told);
                }
            }
        }
    }

    private static void withoutAll() {
        SawLine[] all = {new SawLine(), withSaw("c111"), withBoard("140"), with("c111", "140")};
        for (SawLine x : all) {
            boolean lacks = x != all[3];
            boolean noSaw = x == all[0] || x == all[2];
            for (int what : new int[] {-1, 0, 1, 2, 3, 4, MIN, MAX}) {
                due("ofSaw " + what, x.ofSaw(what), first(!in(what, 0, 2), OUTSIDE, noSaw, STATE));
                due("straightest " + what, x.straightest(what), first(!in(what, 0, 3), OUTSIDE, lacks, STATE));
                due("likely " + what, x.likely(what), first(!in(what, 0, 1), OUTSIDE, lacks, STATE));
                due("each " + what, x.each(what), UNKNOWN);
                for (int m : new int[] {-1, 0, 9999, 10000, MIN, MAX}) {
                    int q = what - 3;
                    int told = first(!in(m, 0, 9999), OUTSIDE, !in(q, -2, 1), UNKNOWN, lacks, STATE);
                    due("mend(" + m + ", " + q + ")", x.mend(m, q), told);
                }
            }
        }
    }

    private static void flawsAndReadings() {
        SawLine x = withSaw("c111;l111");
        for (int q = 0; q < 6; q++) {
            x.flaw(0, 0, 0);
        }
        for (int q : new int[] {-1, 0, 5, 6, MIN, MAX}) {
            for (int what : FEW) {
                due("ofFlaw(" + q + ", " + what + ")", x.ofFlaw(q, what),
                        first(!in(q, 0, 5), UNKNOWN, !in(what, 0, 2), OUTSIDE));
                int told = first(!in(q, 0, 1), UNKNOWN, !in(what, 0, 2), OUTSIDE, true, FULL);
                due("a seventh flaw(" + q + ", " + what + ", 0)", x.flaw(q, what, 0), told);
                told = first(!in(q, 0, 1), UNKNOWN, true, OUTSIDE);
                due("a seventh flaw(" + q + ", " + what + ", 10)", x.flaw(q, what, 10), told);
            }
            due("each(" + q + ") without a BOARD", x.each(q), first(!in(q, 0, 5), UNKNOWN, true, STATE));
        }
        SawLine y = withBoard("140");
        for (int r = 0; r < 8; r++) {
            y.reading(0, 0);
        }
        for (int t : FEW) {
            due("a ninth reading(" + t + ")", y.reading(t, 0), first(t != 0, UNKNOWN, true, FULL));
        }
    }

    /** What saw, board, log tell of their cells, up to INDEX. */
    private static int toldOfCells(int k, int lane, int i, int n) {
        return first(!in(k, 0, 3), UNKNOWN, !in(lane, 0, 2), OUTSIDE,
                laneOf(k) != -1 && laneOf(k) != lane, CAST, laneOf(k) == -1, NULL, n < 0, SIZE,
                !in(i, 0, sizeOf(k)) || (long) i + n > sizeOf(k), INDEX);
    }

    private static void ask(String call, SawLine x, Supplier<Integer> asked, int told) {
        due(call, asked.get(), told);
        faultDue(call, x, told);
    }

    private static void texts() {
        for (int k : SHEETS) {
            for (int lane : LANES) {
                for (int n : CELLS) {
                    SawLine x = withSheets();
                    for (int i : CELLS) {
                        String cells = "(" + k + ", " + lane + ", " + i + ", " + n + ")";
                        int told = toldOfCells(k, lane, i, n);
                        // No cell here begins a text: what is not refused ahead of it is -100.
                        int ofText = told == FINE ? -100 : told;
                        ask("saw" + cells, x, () -> x.saw(k, lane, i, n), ofText);
                        ask("board" + cells, x, () -> x.board(k, lane, i, n), ofText);
                    }
                    DUE.is("TEETH stay", x.many(0), 3);
                    DUE.is("LINES stay", x.many(1), 3);
                }
            }
        }
    }

    private static void logs() {
        for (int k : SHEETS) {
            for (int lane : LANES) {
                for (int n : CELLS) {
                    SawLine x = withSheets();
                    for (int i : CELLS) {
                        for (int q : new int[] {-2, -1, 0, 5, 6, MAX}) {
                            int told = toldOfCells(k, lane, i, n);
                            // Of the cells x, x and 10, 0, 0 the last two alone are STRAINS.
                            boolean strains = n == 2 && k == 1 && i == 1;
                            int all = told == FINE ? first(!strains, OUTSIDE, !in(q, -1, 5), UNKNOWN) : told;
                            ask("log(" + k + ", " + lane + ", " + i + ", " + n + ", " + q + ")", x,
                                    () -> x.log(k, lane, i, n, q), all);
                        }
                    }
                }
            }
        }
    }

    private static void sheets() {
        for (int k : SHEETS) {
            for (int lane : LANES) {
                for (int n : new int[] {-1, 0, 80, 81, MIN, MAX}) {
                    SawLine x = new SawLine();
                    int told = first(!in(k, 0, 3), UNKNOWN, !in(lane, 0, 2) || n > 80, OUTSIDE, n < 0, SIZE);
                    ask("sheet(" + k + ", " + lane + ", " + n + ")", x, () -> x.sheet(k, lane, n), told);
                }
            }
        }
    }

    private static void cells() {
        for (int k : SHEETS) {
            for (int i : CELLS) {
                SawLine x = withSheets();
                int toldOfPut = first(!in(k, 0, 3), UNKNOWN, laneOf(k) == -1, NULL, !in(i, 0, sizeOf(k) - 1), INDEX);
                ask("put(" + k + ", " + i + ", 120)", x, () -> x.put(k, i, 120), toldOfPut);
                for (int lane : LANES) {
                    int told = first(!in(k, 0, 3), UNKNOWN, !in(lane, 0, 2), OUTSIDE,
                            laneOf(k) != -1 && laneOf(k) != lane, CAST, laneOf(k) == -1, NULL,
                            !in(i, 0, sizeOf(k) - 1), INDEX);
                    String call = "cell(" + k + ", " + i + ", " + lane + ")";
                    long got = x.cell(k, i, lane);
                    DUE.holds(call + " is LOST or not, " + got, (got == LOST) == (told != FINE));
                    faultDue(call, x, told);
                }
            }
        }
    }

    private static void copies() {
        for (int k : SHEETS) {
            for (int other : SHEETS) {
                for (int n : CELLS) {
                    for (int i : CELLS) {
                        SawLine x = withSheets();
                        for (int j : CELLS) {
                            int told = first(!in(k, 0, 3) || !in(other, 0, 3), UNKNOWN,
                                    laneOf(k) == -1 || laneOf(other) == -1, NULL, laneOf(k) != laneOf(other), CAST,
                                    n < 0 || i < 0 || j < 0 || (long) i + n > sizeOf(k)
                                            || (long) j + n > sizeOf(other), INDEX);
                            String call = "copy(" + k + ", " + i + ", " + other + ", " + j + ", " + n + ")";
                            DUE.is(call, x.copy(k, i, other, j, n), told == FINE ? n : told);
                            faultDue(call, x, told);
                        }
                    }
                }
            }
        }
    }

    private static void kinds() {
        for (int k : CELLS) {
            for (int kind : FEW) {
                SawLine x = withSheets();
                int told = first(!in(k, 0, 2), UNKNOWN, !in(kind, 0, 2), OUTSIDE, kind > k, CAST);
                ask("as(" + k + ", " + kind + ")", x, () -> x.as(k, kind), told);
                SawLine none = new SawLine();
                ask("as(" + k + ", " + kind + ") of none", none, () -> none.as(k, kind), UNKNOWN);
            }
        }
    }
}
