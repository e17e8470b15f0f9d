/** Part 6 of the terms and promises 26 to 37, sentence by sentence at their bounds. */
public final class EdgesPartsTest extends Bench {
    private static final Due DUE = new Due("EdgesPartsTest");

    private EdgesPartsTest() {
    }

    public static void main(String[] args) {
        slabs();
        orders();
        logAnswers();
        logRefusals();
        sheets();
        lanes();
        sheetRefusals();
        lose();
        put();
        cell();
        copyCells();
        copyOverlaps();
        copyFaults();
        trace();
        telling();
        joints();
        as();
        faults();
        faultOfLatest();
        many();
        numbers();
        lastCalls();
        DUE.end();
    }

    private static void due(String call, long got, long want) {
        DUE.is(call, got, want);
    }

    private static void says(String words) {
        DUE.says(words);
    }

    private static SawLine withRow(int lane, int... cells) {
        SawLine x = new SawLine();
        writeCodes(x, 0, lane, cells);
        return x;
    }

    // ---- logs

    private static void slabs() {
        says("A LOG: 2 to 7 slabs side by side, each with a STRAIN (-9 .. 9)");
        for (int lane = 0; lane < 3; lane++) {
            SawLine x = withRow(lane, 0, 0, 0, 0, 0, 0, 0, 0, 0);
            for (int n = 0; n <= 9; n++) {
                due(n + " slabs, LANE " + lane, x.log(0, lane, 0, n, -1), n >= 2 && n <= 7 ? 0 : OUTSIDE);
            }
            for (int at = 0; at < 7; at++) {
                for (int strain : new int[] {-10, -9, 9, 10}) {
                    x.put(0, at, strain);
                    boolean taken = strain == -9 || strain == 9;
                    due("a STRAIN " + strain + " at " + at, x.log(0, lane, 0, 7, -1) == OUTSIDE ? 1 : 0, taken ? 0 : 1);
                }
                x.put(0, at, 0);
            }
        }
        SawLine y = withRow(2, 5, MIN, MAX, 5, 5);
        due("a STRAIN MIN", y.log(0, 2, 0, 2, -1), OUTSIDE);
        due("a STRAIN MAX", y.log(0, 2, 2, 2, -1), OUTSIDE);
        due("STRAINS beside those that are taken", y.log(0, 2, 3, 2, -1), 0);
    }

    private static void orderDue(int cost, int[] strains, int... order) {
        SawLine x = withRow(0, strains);
        int n = strains.length;
        due("what " + n + " slabs cost", x.log(0, 0, 0, n, -1), cost);
        for (int q = 0; q <= 5; q++) {
            due("cut " + q + " of " + n + " slabs", x.log(0, 0, 0, n, q), q < order.length ? order[q] : NONE);
        }
    }

    private static void orders() {
        says("a cut of a piece costs how much the STRAINS to both sides of it, in that piece, differ.");
        orderDue(18, new int[] {9, -9}, 0);
        orderDue(18, new int[] {-9, 9}, 0);
        orderDue(0, new int[] {-9, -9}, 0);
        // Cut 1 first: |1 + 2 - 9|, then |1 - 2|; cut 0 first: |1 - 11|, then |2 - 9|.
        orderDue(7, new int[] {1, 2, 9}, 1, 0);
        orderDue(7, new int[] {9, 2, 1}, 0, 1);
        // Sums below 0: |-3 - 3|, then |-5 - 8|; or |-8 - 8|, then |-3 + 5|.
        orderDue(18, new int[] {-3, -5, 8}, 1, 0);
        says("The order that costs the least together; of several the first as a row (cuts by numbers, from the left).");
        orderDue(1, new int[] {1, 1, 1}, 0, 1);
        orderDue(0, new int[] {0, 0, 0, 0, 0, 0, 0}, 0, 1, 2, 3, 4, 5);
        // Of seven alike the pieces are halved as well as may be: 3 and 4 (or 4 and 3), 4 by 2 and 2.
        orderDue(18, new int[] {9, 9, 9, 9, 9, 9, 9}, 2, 0, 1, 4, 3, 5);
        orderDue(18, new int[] {-9, -9, -9, -9, -9, -9, -9}, 2, 0, 1, 4, 3, 5);
        // Of four alike the midst first, for nothing.
        orderDue(0, new int[] {5, 5, 5, 5}, 1, 0, 2);
        // The dearest cut first leads to less: |9 - 0|, 0 then; by cut 1 first |9 - 0| too, then |9 - 0|.
        orderDue(9, new int[] {9, 0, 0}, 0, 1);
        orderDue(9, new int[] {0, 0, 9}, 1, 0);
    }

    private static void logAnswers() {
        says("what the order costs (q -1), the q-th cut (0 on); NONE: there are fewer.");
        SawLine x = withRow(1, 5, 5, 5, 5, 5, 5, 5);
        for (int n = 2; n <= 7; n++) {
            int made = 0;
            for (int q = 0; q < n - 1; q++) {
                made |= 1 << x.log(0, 1, 0, n, q);
            }
            due("all cuts of " + n + " slabs", made, (1 << n - 1) - 1);
            for (int q = n - 1; q <= 5; q++) {
                due("a cut " + q + " of " + n + " slabs", x.log(0, 1, 0, n, q), NONE);
            }
        }
        SawLine y = withRow(1, 9, 9, 1, 2, 9);
        due("from a cell on", y.log(0, 1, 2, 3, 0), 1);
        due("the last two cells", y.log(0, 1, 3, 2, -1), 7);
    }

    private static void logRefusals() {
        says("UNKNOWN: SHEET; OUTSIDE: lane; CAST; NULL; SIZE; INDEX; OUTSIDE: n is not 2 .. 7, a STRAIN; UNKNOWN: q is not -1 .. 5.");
        SawLine x = withRow(1, 1, 2, 3, 4, 5, 6, 7, 10);
        for (int k : new int[] {-1, 4, MIN, MAX}) {
            due("SHEET " + k, x.log(k, 1, 0, 2, 0), UNKNOWN);
        }
        for (int lane : new int[] {-1, 3, MIN, MAX}) {
            due("LANE " + lane, x.log(0, lane, 0, 2, 0), OUTSIDE);
        }
        due("another LANE", x.log(0, 0, 0, 2, 0), CAST);
        due("another LANE", x.log(0, 2, 0, 2, 0), CAST);
        due("nothing", x.log(1, 1, 0, 2, 0), NULL);
        due("n -1", x.log(0, 1, 0, -1, 0), SIZE);
        due("n MIN", x.log(0, 1, 0, MIN, 0), SIZE);
        due("n 9 of 8", x.log(0, 1, 0, 9, 0), INDEX);
        due("i -1", x.log(0, 1, -1, 2, 0), INDEX);
        due("i 7", x.log(0, 1, 7, 2, 0), INDEX);
        due("none from 9 on", x.log(0, 1, 9, 0, 0), INDEX);
        due("none from 8 on", x.log(0, 1, 8, 0, 0), OUTSIDE);
        due("n MAX", x.log(0, 1, 1, MAX, 0), INDEX);
        due("one from 7 on", x.log(0, 1, 7, 1, 9), OUTSIDE);
        due("a STRAIN and q 6", x.log(0, 1, 6, 2, 6), OUTSIDE);
        due("fault()", x.fault(), 0);
        for (int q : new int[] {-2, 6, MIN, MAX}) {
            due("q " + q, x.log(0, 1, 0, 2, q), UNKNOWN);
            due("q " + q + " of seven", x.log(0, 1, 0, 7, q), UNKNOWN);
        }
        due("q -1", x.log(0, 1, 0, 2, -1), 1);
        due("q 5", x.log(0, 1, 0, 2, 5), NONE);
    }

    // ---- sheets

    private static void sheets() {
        says("SHEETS 0 .. 3 have nothing (at first), or a row of 0 .. 80 numbers (0 at first)");
        SawLine x = new SawLine();
        for (int k = 0; k < 4; k++) {
            due("nothing at first", x.put(k, 0, 0), NULL);
            due("a row of 80", x.sheet(k, 2, 80), 1);
            due("0 at first", x.cell(k, 0, 2), 0);
            due("0 at first", x.cell(k, 79, 2), 0);
            due("the last cell", x.put(k, 79, k + 1), 1);
            due("the first cell", x.put(k, 0, -k - 1), 1);
            due("behind the last cell", x.put(k, 80, 9), INDEX);
        }
        for (int k = 0; k < 4; k++) {
            due("the last cell of " + k, x.cell(k, 79, 2), k + 1);
            due("the first cell of " + k, x.cell(k, 0, 2), -k - 1);
        }
        due("a row of 80 anew", x.sheet(1, 2, 80), 1);
        due("0 again", x.cell(1, 79, 2), 0);
        due("the SHEET ahead of it", x.cell(0, 79, 2), 1);
        due("the SHEET behind it", x.cell(2, 0, 2), -3);
        due("a row of none", x.sheet(1, 0, 0), 1);
        due("cell 0 of none", x.put(1, 0, 0), INDEX);
        due("a row of none is not nothing", x.lose(1), 1);
        due("a row of one", x.sheet(1, 1, 1), 1);
        due("cell 0 of one", x.put(1, 0, 7), 1);
        due("cell 1 of one", x.put(1, 1, 7), INDEX);
        due("a longer row", x.sheet(1, 1, 2), 1);
        due("0 again", x.cell(1, 0, 1), 0);
    }

    private static void lanes() {
        says("of a LANE: 0 bytes, 1 shorts, 2 ints; what comes to a cell of it is cut to its LANE.");
        int[][] byPut = {{127, 127, 127, 127}, {128, -128, 128, 128}, {-128, -128, -128, -128},
            {-129, 127, -129, -129}, {255, -1, 255, 255}, {256, 0, 256, 256}, {32767, -1, 32767, 32767},
            {32768, 0, -32768, 32768}, {-32768, 0, -32768, -32768}, {-32769, -1, 32767, -32769},
            {65535, -1, -1, 65535}, {65536, 0, 0, 65536}, {MAX, -1, -1, MAX}, {MIN, 0, 0, MIN}};
        for (int lane = 0; lane < 3; lane++) {
            SawLine x = withRow(lane, 5, 5, 5);
            for (int[] p : byPut) {
                due("put of " + p[0], x.put(0, 1, p[0]), 1);
                due("the cell of LANE " + lane + " by " + p[0], x.cell(0, 1, lane), p[1 + lane]);
            }
            due("the cell ahead", x.cell(0, 0, lane), 5);
            due("the cell behind", x.cell(0, 2, lane), 5);
        }
    }

    private static void sheetRefusals() {
        says("A SHEET gets a new row: 1. UNKNOWN; OUTSIDE: lane, n above 80; SIZE.");
        SawLine x = new SawLine();
        for (int k : new int[] {-1, 4, MIN, MAX}) {
            due("SHEET " + k, x.sheet(k, 0, 1), UNKNOWN);
            due("SHEET " + k + ", LANE 3, n 81", x.sheet(k, 3, 81), UNKNOWN);
            due("SHEET " + k + ", LANE 3, n -1", x.sheet(k, 3, -1), UNKNOWN);
        }
        for (int lane : new int[] {-1, 3, MIN, MAX}) {
            due("LANE " + lane, x.sheet(0, lane, 1), OUTSIDE);
            due("LANE " + lane + ", n -1", x.sheet(0, lane, -1), OUTSIDE);
        }
        for (int n : new int[] {81, MAX}) {
            due("n " + n, x.sheet(0, 0, n), OUTSIDE);
        }
        due("fault()", x.fault(), 0);
        for (int n : new int[] {-1, MIN}) {
            due("n " + n, x.sheet(0, 0, n), SIZE);
            due("fault()", x.fault(), 4);
        }
        due("nothing came of it", x.lose(0), 0);
        for (int n : new int[] {0, 1, 80}) {
            due("n " + n, x.sheet(0, 2, n), 1);
            due("fault()", x.fault(), 0);
        }
    }

    private static void lose() {
        says("A SHEET has nothing: 1; 0: it had nothing. UNKNOWN.");
        SawLine x = new SawLine();
        for (int k = 0; k < 4; k++) {
            x.sheet(k, 0, 1);
        }
        for (int k = 0; k < 4; k++) {
            due("lose(" + k + ")", x.lose(k), 1);
            due("lose(" + k + ") again", x.lose(k), 0);
            due("put then", x.put(k, 0, 0), NULL);
            due("sheet then", x.sheet(k, 0, 1), 1);
        }
        for (int k : new int[] {-1, 4, MIN, MAX}) {
            due("lose(" + k + ")", x.lose(k), UNKNOWN);
        }
        for (int k = 0; k < 4; k++) {
            due("lose(" + k + ")", x.lose(k), 1);
        }
    }

    private static void put() {
        says("Cell i of a SHEET becomes v: 1. UNKNOWN; NULL; INDEX.");
        SawLine x = withRow(0, 1, 2, 3);
        for (int k : new int[] {-1, 4, MIN, MAX}) {
            due("SHEET " + k, x.put(k, 0, 9), UNKNOWN);
            due("SHEET " + k + ", cell -1", x.put(k, -1, 9), UNKNOWN);
        }
        for (int k = 1; k < 4; k++) {
            due("nothing", x.put(k, 0, 9), NULL);
            due("nothing, cell -1", x.put(k, -1, 9), NULL);
        }
        for (int i : new int[] {-1, 3, 80, MIN, MAX}) {
            due("cell " + i, x.put(0, i, 9), INDEX);
        }
        for (int i = 0; i < 3; i++) {
            due("as it was", x.cell(0, i, 0), i + 1);
            due("cell " + i, x.put(0, i, 7 + i), 1);
            due("as it is", x.cell(0, i, 0), 7 + i);
        }
    }

    private static void cellDue(SawLine x, int k, int i, int lane, long want, int fault) {
        x.fault();
        due("cell(" + k + ", " + i + ", " + lane + ")", x.cell(k, i, lane), want);
        due("fault()", x.fault(), fault);
    }

    private static void cell() {
        says("Cell i of what a SHEET has, taken as a row of a LANE. LOST: UNKNOWN, OUTSIDE: lane; FAULTS CAST (nothing is no CAST), NULL, INDEX.");
        SawLine x = withRow(1, 11, 12);
        for (int k : new int[] {-1, 4, MIN, MAX}) {
            cellDue(x, 0, 2, 1, LOST, 3);
            cellDue(x, k, 0, 1, LOST, 0);
        }
        for (int lane : new int[] {-1, 3, MIN, MAX}) {
            cellDue(x, 0, 2, 1, LOST, 3);
            cellDue(x, 0, 0, lane, LOST, 0);
            cellDue(x, 0, 2, 1, LOST, 3);
            cellDue(x, 3, 0, lane, LOST, 0);
        }
        for (int lane = 0; lane < 3; lane++) {
            cellDue(x, 3, 0, lane, LOST, 1);
            cellDue(x, 3, -1, lane, LOST, 1);
        }
        for (int i : new int[] {0, -1, 2}) {
            cellDue(x, 0, i, 0, LOST, 2);
            cellDue(x, 0, i, 2, LOST, 2);
        }
        for (int i : new int[] {-1, 2, 80, MIN, MAX}) {
            cellDue(x, 0, i, 1, LOST, 3);
        }
        cellDue(x, 0, 0, 1, 11, 0);
        cellDue(x, 0, 1, 1, 12, 0);
        x.put(0, 1, MIN);
        cellDue(x, 0, 1, 1, 0, 0);
        x.sheet(0, 2, 1);
        x.put(0, 0, MIN);
        cellDue(x, 0, 0, 2, MIN, 0);
    }

    private static void cells(SawLine x, int k, int... want) {
        for (int i = 0; i < want.length; i++) {
            due("cell " + i + " of SHEET " + k, x.cell(k, i, 0), want[i]);
        }
    }

    private static SawLine withTwoRows() {
        SawLine x = withRow(0, 1, 2, 3, 4, 5);
        writeCodes(x, 1, 0, 11, 12, 13);
        return x;
    }

    private static void copyCells() {
        says("n cells of a SHEET from i on go to another one (perhaps the same) from j on, as they were: n.");
        SawLine x = withTwoRows();
        due("all of the shorter one", x.copy(1, 0, 0, 0, 3), 3);
        cells(x, 0, 11, 12, 13, 4, 5);
        cells(x, 1, 11, 12, 13);
        due("up to both ends", x.copy(0, 4, 1, 2, 1), 1);
        cells(x, 1, 11, 12, 5);
        due("none at both ends", x.copy(0, 5, 1, 3, 0), 0);
        due("none at both beginnings", x.copy(0, 0, 1, 0, 0), 0);
        cells(x, 0, 11, 12, 13, 4, 5);
        cells(x, 1, 11, 12, 5);
        for (int lane = 0; lane < 3; lane++) {
            SawLine y = new SawLine();
            y.sheet(2, lane, 80);
            y.sheet(3, lane, 80);
            y.put(2, 0, MIN + 70000);
            y.put(2, 79, -1);
            due("80 cells", y.copy(2, 0, 3, 0, 80), 80);
            due("the first", y.cell(3, 0, lane), y.cell(2, 0, lane));
            due("the last", y.cell(3, 79, lane), -1);
            y.sheet(2, lane, 0);
            due("none to none", y.copy(2, 0, 2, 0, 0), 0);
        }
    }

    private static void copyOverlaps() {
        says("(perhaps the same) from j on, as they were");
        SawLine x = withTwoRows();
        due("to the right by one", x.copy(0, 0, 0, 1, 4), 4);
        cells(x, 0, 1, 1, 2, 3, 4);
        x = withTwoRows();
        due("to the left by one", x.copy(0, 1, 0, 0, 4), 4);
        cells(x, 0, 2, 3, 4, 5, 5);
        x = withTwoRows();
        due("onto itself", x.copy(0, 0, 0, 0, 5), 5);
        cells(x, 0, 1, 2, 3, 4, 5);
        x = withTwoRows();
        due("to the right by two", x.copy(0, 1, 0, 3, 2), 2);
        cells(x, 0, 1, 2, 3, 2, 3);
    }

    private static void copyFaults() {
        says("UNKNOWN; FAULTS NULL (the first, the other), CAST (unlike LANES), INDEX: i, j, n below 0 or beyond.");
        SawLine x = withTwoRows();
        writeCodes(x, 2, 1, 21, 22, 23);
        for (int k : new int[] {-1, 4, MIN, MAX}) {
            due("from SHEET " + k, x.copy(k, 0, 0, 0, 1), UNKNOWN);
            due("to SHEET " + k, x.copy(0, 0, k, 0, 1), UNKNOWN);
            due("from nothing to SHEET " + k, x.copy(3, -1, k, -1, -1), UNKNOWN);
            due("from SHEET " + k + " to nothing", x.copy(k, -1, 3, -1, -1), UNKNOWN);
        }
        due("fault()", x.fault(), 0);
        due("from nothing", x.copy(3, -1, 0, -1, -1), NULL);
        due("to nothing", x.copy(0, -1, 3, -1, -1), NULL);
        due("from nothing to nothing", x.copy(3, 0, 3, 0, 0), NULL);
        due("fault()", x.fault(), 1);
        due("unlike LANES", x.copy(0, 0, 2, 0, 1), CAST);
        due("unlike LANES, none of the cells", x.copy(2, 0, 0, 0, 0), CAST);
        due("unlike LANES and n -1", x.copy(2, -1, 0, -1, -1), CAST);
        due("fault()", x.fault(), 2);
        int[][] beyond = {{-1, 0, 1}, {0, -1, 1}, {0, 0, -1}, {-1, 0, 0}, {0, -1, 0}, {6, 0, 0}, {0, 4, 0}, {5, 0, 1},
            {0, 3, 1}, {3, 0, 3}, {0, 1, 3}, {0, 0, 4}, {0, 0, 6}, {MIN, 0, 1}, {0, MIN, 1}, {0, 0, MIN},
            {MAX, 0, 1}, {0, MAX, 1}, {0, 0, MAX}, {1, 1, MAX}, {MAX, MAX, MAX}, {MIN, MIN, MIN}, {MAX, 0, 0}};
        for (int[] b : beyond) {
            due("i " + b[0] + ", j " + b[1] + ", n " + b[2], x.copy(0, b[0], 1, b[1], b[2]), INDEX);
            due("fault()", x.fault(), 3);
        }
        cells(x, 0, 1, 2, 3, 4, 5);
        cells(x, 1, 11, 12, 13);
        due("i 2, j 0, n 3", x.copy(0, 2, 1, 0, 3), 3);
        due("fault()", x.fault(), 0);
    }

    // ---- parts

    private static void trace() {
        says("TRACE (an int that wraps, 0 at first, becomes 31 times it and the number)");
        SawLine x = withSaw("c111");
        due("0 at first", x.trace(), 0);
        int trail = 0;
        for (int again = 0; again < 20; again++) {
            x.tell(0);
            trail = 31 * trail + 1;
            due("trace() behind " + (again + 1) + " bodies", x.trace(), trail);
        }
        // 31^6 and so on up to 31^0 is 917087137; by one more it is 28429701248, and that wraps.
        SawLine y = withSaw("c111");
        for (int again = 0; again < 7; again++) {
            y.tell(0);
        }
        due("the last that does not wrap", y.trace(), 917087137);
        y.tell(0);
        due("the first that wraps", y.trace(), -1635069824);
        due("asked again", y.trace(), -1635069824);
        saw(y, "c222");
        due("with a new SAW", y.trace(), -1635069824);
    }

    private static void told(String tooth, int want, int trail) {
        SawLine x = withSaw("c555;" + tooth);
        due("tell of " + tooth, x.tell(1), want);
        due("trace() of " + tooth, x.trace(), trail);
    }

    private static void telling() {
        says("TOOTH (1): EDGE. BENT (2): what TOOTH's gives, and 100. HOOKED (3): what BENT's gives, and what TOOTH's gives (BENT's left out).");
        told("c990", 0, 1);
        told("c009", 9, 1);
        told("l990", 100, 2 * 31 + 1);
        told("r009", 109, 2 * 31 + 1);
        told("l990h", 100, ((3 * 31 + 2) * 31 + 1) * 31 + 1);
        told("r009h", 118, ((3 * 31 + 2) * 31 + 1) * 31 + 1);
        says("TELLING of a TOOTH. UNKNOWN.");
        SawLine x = withSaw("c111;l111;r111h");
        for (int k : new int[] {-1, 3, MIN, MAX}) {
            due("tell(" + k + ")", x.tell(k), UNKNOWN);
            due("tell(" + k + ") of none", new SawLine().tell(k), UNKNOWN);
        }
        due("tell(0) of none", new SawLine().tell(0), UNKNOWN);
        due("TRACE of refusals", x.trace(), 0);
    }

    private static void joints() {
        says("JOINTED by a lent body (4): its number; HOOKED ones have their own (5): 70.");
        String[] letters = {"c111", "l111", "r111"};
        for (String letter : letters) {
            SawLine x = withSaw(String.join(";", letter, letter, letter, letter, letter, letter, letter, letter));
            int trail = 0;
            for (int k = 0; k < 8; k++) {
                due("joint(" + k + ") of " + letter, x.joint(k), k);
                trail = 31 * trail + 4;
                due("trace()", x.trace(), trail);
            }
        }
        SawLine y = withSaw("l111h;r111h");
        due("joint(0) of l h", y.joint(0), 70);
        due("trace()", y.trace(), 5);
        due("joint(1) of r h", y.joint(1), 70);
        due("trace()", y.trace(), 5 * 31 + 5);
        says("How it is JOINTED. UNKNOWN.");
        for (int k : new int[] {-1, 2, MIN, MAX}) {
            due("joint(" + k + ")", y.joint(k), UNKNOWN);
        }
        due("joint(0) of none", new SawLine().joint(0), UNKNOWN);
        due("TRACE of refusals", y.trace(), 5 * 31 + 5);
    }

    private static void as() {
        says("A TOOTH, taken as one of a kind: 1. UNKNOWN; OUTSIDE; CAST: it is none.");
        SawLine x = withSaw("c111;l111;r111h");
        for (int k = 0; k < 3; k++) {
            for (int kind = 0; kind < 3; kind++) {
                due("as(" + k + ", " + kind + ")", x.as(k, kind), kind <= k ? 1 : CAST);
                due("fault()", x.fault(), kind <= k ? 0 : 2);
            }
            for (int kind : new int[] {-1, 3, MIN, MAX}) {
                due("as(" + k + ", " + kind + ")", x.as(k, kind), OUTSIDE);
                due("fault()", x.fault(), 0);
            }
        }
        for (int k : new int[] {-1, 3, MIN, MAX}) {
            due("as(" + k + ", 0)", x.as(k, 0), UNKNOWN);
            due("as(" + k + ", 3)", x.as(k, 3), UNKNOWN);
        }
        due("as(0, 3) of none", new SawLine().as(0, 3), UNKNOWN);
        due("TRACE stays", x.trace(), 0);
    }

    private static void faults() {
        says("it answers -10 less it (LOST, where a long is answered, as for refusals) and changes nothing; fault() tells it.");
        SawLine x = withRow(0, 1, 2);
        due("NULL", x.put(1, 0, 0), -11);
        due("fault()", x.fault(), 1);
        due("CAST", x.saw(0, 1, 0, 1), -12);
        due("fault()", x.fault(), 2);
        due("INDEX", x.put(0, 2, 0), -13);
        due("fault()", x.fault(), 3);
        due("SIZE", x.sheet(0, 0, -1), -14);
        due("fault()", x.fault(), 4);
        due("a long, by a FAULT", x.cell(0, 2, 0), LOST);
        due("fault()", x.fault(), 3);
        due("a long, by a refusal", x.cell(4, 0, 0), LOST);
        due("fault()", x.fault(), 0);
    }

    private static void faultOfLatest() {
        says("The FAULT of the latest call that names one: 0: it came to none, or was refused (0 ahead of any).");
        due("ahead of any", new SawLine().fault(), 0);
        SawLine x = withRow(0, 'c', '1', '1', '1');
        x.put(0, 4, 0);
        x.set(0, 0, 0);
        x.ofSaw(9);
        x.hand(99, 0, 0);
        x.fence(1);
        x.where(0);
        x.flaw(0, 0, 0);
        x.mend(-1, 0);
        x.tell(0);
        x.joint(0);
        x.lose(3);
        x.lose(4);
        x.trace();
        x.many(0);
        due("calls that name none leave it", x.fault(), 3);
        due("asked again", x.fault(), 3);
        due("one that comes to none", x.saw(0, 0, 0, 4), 1);
        due("fault()", x.fault(), 0);
        x.put(0, 4, 0);
        due("one that is refused", x.as(9, 0), UNKNOWN);
        due("fault()", x.fault(), 0);
        x.put(0, 4, 0);
        due("a TEXT with a FIRST FAULT", x.board(0, 0, 0, 4), -100);
        due("fault()", x.fault(), 0);
        x.put(0, 4, 0);
        due("a LOG that is refused behind its FAULTS", x.log(0, 0, 0, 1, 0), OUTSIDE);
        due("fault()", x.fault(), 0);
        x.put(0, 4, 0);
        due("another FAULT", x.put(1, 0, 0), NULL);
        due("fault()", x.fault(), 1);
    }

    private static void many() {
        says("How many: 0 TEETH, 1 LINES, 2 FLAWS, 3 READINGS, 4 strokes of a CUT as it is now (0 without SAW, BOARD). OUTSIDE.");
        SawLine x = with("c111;c111;c111;c111;c111;c111;c111;c111", "140".repeat(24));
        for (int q = 0; q < 6; q++) {
            x.flaw(0, 0, 0);
        }
        for (int r = 0; r < 8; r++) {
            x.reading(0, 0);
        }
        int[] most = {8, 24, 6, 8, 24};
        for (int what = 0; what < 5; what++) {
            due("as many as may be: many(" + what + ")", x.many(what), most[what]);
            due("none: many(" + what + ")", new SawLine().many(what), 0);
        }
        for (int what : new int[] {-1, 5, MIN, MAX}) {
            due("many(" + what + ")", x.many(what), OUTSIDE);
            due("many(" + what + ") of none", new SawLine().many(what), OUTSIDE);
        }
        due("many(4) without a SAW", withBoard("140").many(4), 0);
        due("many(4) without a BOARD", withSaw("c111").many(4), 0);
        SawLine y = with("r111", "140142143");
        due("many(4) of a pinched one", y.many(4), 2);
        y.set(0, 0, 2);
        due("many(4) as it is now", y.many(4), 3);
        y.set(0, 1, 0);
        due("many(4) as it is now", y.many(4), 1);
    }

    private static void numbers() {
        says("UNKNOWN = -1, OUTSIDE = -2, STATE = -3, FULL = -4, NONE = -9");
        due("UNKNOWN", SawLine.UNKNOWN, -1);
        due("OUTSIDE", SawLine.OUTSIDE, -2);
        due("STATE", SawLine.STATE, -3);
        due("FULL", SawLine.FULL, -4);
        due("NONE", SawLine.NONE, -9);
        says("LOST = Long.MIN_VALUE");
        due("LOST", SawLine.LOST, Long.MIN_VALUE);
    }

    private static void lastCalls() {
        says("An object is used for at most 512 calls after it has been made; what later calls answer is free.");
        SawLine x = withRow(2, 'l', '1', '1', '9', 'h');
        x.saw(0, 2, 0, 5);
        int calls = 7;
        int trail = 0;
        for (; calls < 510; calls++) {
            x.tell(0);
            trail = (((31 * trail + 3) * 31 + 2) * 31 + 1) * 31 + 1;
        }
        due("the 511th call", x.tell(0), 118);
        trail = (((31 * trail + 3) * 31 + 2) * 31 + 1) * 31 + 1;
        due("the 512th call", x.trace(), trail);
    }
}
