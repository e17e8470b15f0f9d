/** Parts 2 and 3 of the terms and promises 6 to 17, sentence by sentence at their bounds. */
public final class EdgesCutTest extends Bench {
    private static final Due DUE = new Due("EdgesCutTest");
    private static final int[] FAR_CODES = {MIN, MAX, 49 + 256, 49 + 65536, 49 - 256, -49};
    /** A saw that takes nothing: it pushes nothing, and its KERF is 1. */
    private static final String IDLE = "c000";
    /** PUSH is 729 + 81 + 45 + 45, so 90 by HARD 1. */
    private static final String RIGHT_900 = "r999;r199;r195;r195", LEFT_900 = "l999;l199;l195;l195";

    private EdgesCutTest() {
    }

    public static void main(String[] args) {
        howManyLines();
        lineDigits();
        boardEnds();
        boardCells();
        boardFaults();
        ofLine();
        hand();
        fence();
        pushQuotient();
        grainAndLean();
        steeringQuotient();
        late();
        headingBounds();
        placeBounds();
        fenceHolds();
        pinched();
        off();
        whereAndHeading();
        marks();
        which();
        straightestLean();
        straightestSteers();
        straightestRefusals();
        DUE.end();
    }

    private static void due(String call, long got, long want) {
        DUE.is(call, got, want);
    }

    private static void says(String words) {
        DUE.says(words);
    }

    private static void textDue(String text, int want) {
        SawLine x = new SawLine();
        due("board of '" + text + "'", board(x, text), want);
        due("LINES of '" + text + "'", x.many(1), Math.max(0, want));
    }

    private static void howManyLines() {
        says("1 to 24 LINES, numbered from 0 on, of three digits each, with nothing between");
        textDue("", -100);
        textDue("100", 1);
        textDue("149".repeat(23), 23);
        textDue("149".repeat(24), 24);
        textDue("149".repeat(24) + "1", -172);
        textDue("149".repeat(24) + "149", -172);
        textDue("149".repeat(24) + "x", -172);
        textDue("149;149", -103);
        textDue("149 149", -103);
        SawLine x = withBoard("141142143144145146147148149");
        for (int t = 0; t < 9; t++) {
            due("CLOSES of LINE " + t, x.ofLine(t, 2), t + 1);
        }
        due("a LINE 9", x.ofLine(9, 2), UNKNOWN);
        due("a LINE 23 of 24", withBoard("149".repeat(23) + "987").ofLine(23, 2), 7);
        due("a LINE 24 of 24", withBoard("149".repeat(24)).ofLine(24, 2), UNKNOWN);
    }

    private static int boardWithCode(SawLine x, String text, int at, int code) {
        write(x, 0, 2, text);
        x.put(0, at, code);
        return x.board(0, 2, 0, text.length());
    }

    private static void lineDigits() {
        says("HARD (1 .. 9), GRAIN (0 .. 8: 4 less), CLOSES (0 .. 9)");
        int[] least = {49, 48, 48};
        int[] most = {57, 56, 57};
        int[] less = {48, 52, 48};
        for (int at = 0; at < 6; at++) {
            int what = at % 3;
            for (int code = -2; code <= 130; code++) {
                SawLine x = new SawLine();
                boolean goesOn = code >= least[what] && code <= most[what];
                due("the code " + code + " at " + at, boardWithCode(x, "555555", at, code), goesOn ? 2 : -100 - at);
                due("what came of it", x.ofLine(at / 3, what), goesOn ? code - less[what] : UNKNOWN);
            }
            for (int code : FAR_CODES) {
                due("the code " + code + " at " + at, boardWithCode(new SawLine(), "555555", at, code), -100 - at);
            }
        }
    }

    private static void boardEnds() {
        says("how many codes there are, if it just ends too soon");
        String text = "149".repeat(24);
        for (int n = 0; n <= 72; n++) {
            boolean whole = n > 0 && n % 3 == 0;
            due("the first " + n + " codes", board(new SawLine(), text.substring(0, n)), whole ? n / 3 : -100 - n);
        }
    }

    private static void boardCells() {
        says("A BOARD by a TEXT of n such cells: how many LINES (no READINGS then); -100 less the FIRST FAULT.");
        for (int lane = 0; lane < 3; lane++) {
            SawLine x = new SawLine();
            write(x, lane, lane, "121343565");
            due("the midst, LANE " + lane, x.board(lane, lane, 3, 3), 1);
            due("HARD", x.ofLine(0, 0), 3);
            due("up to the last cell", x.board(lane, lane, 3, 6), 2);
            due("HARD", x.ofLine(1, 0), 5);
            due("a FIRST FAULT is counted from i on", x.board(lane, lane, 4, 5), -105);
            due("LINES stay", x.many(1), 2);
        }
        SawLine y = with("l111;r111", "140140");
        y.flaw(0, 0, 9);
        y.hand(1, 2, 3);
        y.fence(4);
        y.reading(0, 0);
        y.reading(1, 0);
        due("a faulty text", board(y, "140x"), -103);
        due("READINGS stay then", y.many(3), 2);
        due("fault() of a text", y.fault(), 0);
        due("the same BOARD again", board(y, "140140"), 2);
        due("READINGS", y.many(3), 0);
        due("back(1)", y.back(1), OUTSIDE);
        due("FLAWS stay", y.many(2), 1);
        due("TEETH stay", y.many(0), 2);
        due("LEAN stays", y.ofHand(0), 1);
        due("FENCE stays", y.fence(4), 4);
        SawLine z = new SawLine();
        z.sheet(0, 0, 80);
        for (int i = 0; i < 72; i++) {
            z.put(0, 8 + i, "149".charAt(i % 3));
        }
        due("up to the 80th cell", z.board(0, 0, 8, 72), 24);
        due("one more", z.board(0, 0, 8, 73), INDEX);
    }

    private static void boardFaults() {
        says("UNKNOWN; OUTSIDE: lane; CAST; NULL; SIZE; INDEX; -100 less it.");
        SawLine x = new SawLine();
        write(x, 3, 1, "149");
        for (int k : new int[] {-1, 4, MIN, MAX}) {
            due("SHEET " + k, x.board(k, 1, 0, 3), UNKNOWN);
        }
        for (int lane : new int[] {-1, 3, MIN, MAX}) {
            due("LANE " + lane, x.board(3, lane, 0, 3), OUTSIDE);
        }
        due("another LANE", x.board(3, 0, 0, 3), CAST);
        due("another LANE", x.board(3, 2, 0, 3), CAST);
        due("nothing", x.board(2, 0, 0, 3), NULL);
        due("n -1", x.board(3, 1, 0, -1), SIZE);
        due("n MIN", x.board(3, 1, 0, MIN), SIZE);
        due("n 4", x.board(3, 1, 0, 4), INDEX);
        due("n MAX from 3 on", x.board(3, 1, 3, MAX), INDEX);
        due("i -1", x.board(3, 1, -1, 3), INDEX);
        due("i 1", x.board(3, 1, 1, 3), INDEX);
        due("none from -1 on", x.board(3, 1, -1, 0), INDEX);
        due("none from 0 on", x.board(3, 1, 0, 0), -100);
        due("none from 3 on", x.board(3, 1, 3, 0), -100);
        due("none from 4 on", x.board(3, 1, 4, 0), INDEX);
        due("all", x.board(3, 1, 0, 3), 1);
    }

    private static void ofLine() {
        says("Of a LINE: 0 HARD, 1 GRAIN (-4 .. 4), 2 CLOSES.");
        SawLine x = withBoard("100540989");
        int[][] lines = {{1, -4, 0}, {5, 0, 0}, {9, 4, 9}};
        for (int t = 0; t < 3; t++) {
            for (int what = 0; what < 3; what++) {
                due("ofLine(" + t + ", " + what + ")", x.ofLine(t, what), lines[t][what]);
            }
            due("what -1", x.ofLine(t, -1), OUTSIDE);
            due("what 3", x.ofLine(t, 3), OUTSIDE);
        }
        for (int t : new int[] {-1, 3, MIN, MAX}) {
            due("LINE " + t, x.ofLine(t, 0), UNKNOWN);
            due("LINE " + t + ", what 3", x.ofLine(t, 3), UNKNOWN);
        }
        due("no LINE", new SawLine().ofLine(0, 3), UNKNOWN);
    }

    private static void handIs(SawLine x, int lean, int steers, int late) {
        due("LEAN", x.ofHand(0), lean);
        due("STEERS", x.ofHand(1), steers);
        due("LATE", x.ofHand(2), late);
    }

    private static void hand() {
        says("A HAND: LEAN (-9 .. 9), STEERS (0 .. 9), LATE (0 .. 5 strokes); 0, 0, 0 at first.");
        SawLine x = new SawLine();
        handIs(x, 0, 0, 0);
        due("hand(-9, 0, 0)", x.hand(-9, 0, 0), 1);
        handIs(x, -9, 0, 0);
        due("hand(9, 9, 5)", x.hand(9, 9, 5), 1);
        handIs(x, 9, 9, 5);
        int[][] beyond = {{-10, 1, 1}, {10, 1, 1}, {1, -1, 1}, {1, 10, 1}, {1, 1, -1}, {1, 1, 6}, {MIN, 1, 1},
            {MAX, 1, 1}, {1, MIN, 1}, {1, MAX, 1}, {1, 1, MIN}, {1, 1, MAX}};
        for (int[] b : beyond) {
            due("hand(" + b[0] + ", " + b[1] + ", " + b[2] + ")", x.hand(b[0], b[1], b[2]), OUTSIDE);
            handIs(x, 9, 9, 5);
        }
        says("Of the HAND: 0 LEAN, 1 STEERS, 2 LATE. OUTSIDE.");
        x.hand(1, 2, 3);
        handIs(x, 1, 2, 3);
        for (int what : new int[] {-1, 3, MIN, MAX}) {
            due("ofHand(" + what + ")", x.ofHand(what), OUTSIDE);
        }
    }

    private static void fence() {
        says("A FENCE: 0 none (at first), else 1 .. 99.");
        SawLine x = new SawLine();
        due("fence(1)", x.fence(1), 0);
        due("fence(99)", x.fence(99), 1);
        for (int v : new int[] {-1, 100, MIN, MAX}) {
            due("fence(" + v + ")", x.fence(v), OUTSIDE);
        }
        says("A FENCE becomes v (0: none): what it was.");
        due("fence(0)", x.fence(0), 99);
        due("fence(0) again", x.fence(0), 0);
    }

    private static void firstPlace(String saw, String board, int want) {
        due("PLACE of " + saw + " in " + board, with(saw, board).where(0), want);
    }

    private static void pushQuotient() {
        says("A quotient is cut towards 0.");
        // PUSH 9, 10, 19, and to the left.
        firstPlace("r119", "140", 0);
        firstPlace("r215", "140", 1);
        firstPlace("r215;r119", "140", 1);
        firstPlace("l119", "140", 0);
        firstPlace("l215", "140", -1);
        firstPlace("l215;l119", "140", -1);
        says("PUSH by 10 times HARD");
        // PUSH 90 and 89, 729 by 10 to 90.
        firstPlace("r925", "940", 1);
        firstPlace("r925;l111", "940", 0);
        firstPlace("l925", "940", -1);
        firstPlace("l925;r111", "940", 0);
        int[] by = {72, 36, 24, 18, 14, 12, 10, 9, 8};
        for (int hard = 1; hard <= 9; hard++) {
            firstPlace("r999", hard + "40", by[hard - 1]);
            firstPlace("l999", hard + "40", -by[hard - 1]);
        }
    }

    private static void grainAndLean() {
        says("A CUT goes LINE by LINE, a stroke each, from PLACE 0, with HEADING 0.");
        SawLine x = with(IDLE, "140");
        due("PLACE of nothing at all", x.where(0), 0);
        due("HEADING of nothing at all", x.heading(0), 0);
        due("strokes", x.many(4), 1);
        due("strokes of 24 LINES", with(IDLE, "140".repeat(24)).many(4), 24);
        says("by GRAIN, by LEAN");
        firstPlace(IDLE, "100", -4);
        firstPlace(IDLE, "180", 4);
        for (int lean = -9; lean <= 9; lean++) {
            x.hand(lean, 9, 5);
            due("PLACE by LEAN " + lean, x.where(0), lean);
        }
    }

    private static void secondStroke(int lean, int steers, int heading, int place) {
        SawLine x = with(IDLE, "140140");
        x.hand(lean, steers, 0);
        due("HEADING by LEAN " + lean + ", STEERS " + steers, x.heading(1), heading);
        due("PLACE by LEAN " + lean + ", STEERS " + steers, x.where(1), place);
    }

    private static void steeringQuotient() {
        says("less STEERS times what PLACE was behind LINE t less 1 less LATE (0 ahead of the first one) by 8");
        secondStroke(7, 1, 14, 21);
        secondStroke(8, 1, 15, 23);
        secondStroke(-7, 1, -14, -21);
        secondStroke(-8, 1, -15, -23);
        // 63 by 8 is 7: what is cut is the product, not the PLACE.
        secondStroke(7, 9, 7, 14);
        secondStroke(-7, 9, -7, -14);
        secondStroke(9, 9, 8, 17);
        secondStroke(9, 0, 18, 27);
        secondStroke(1, 8, 1, 2);
        secondStroke(1, 7, 2, 3);
    }

    private static void late() {
        says("(0 ahead of the first one)");
        for (int late = 0; late <= 5; late++) {
            SawLine x = with(IDLE, "140".repeat(8));
            // STEERS 8: HEADING is less by all of a PLACE; the first one, 8, is seen LATE strokes later.
            x.hand(8, 8, late);
            for (int t = 0; t <= late; t++) {
                due("LATE " + late + ": heading(" + t + ")", x.heading(t), 8 * (t + 1));
            }
            due("LATE " + late + ": the first that is steered", x.heading(late + 1), 8 * (late + 1));
        }
        SawLine y = with(IDLE, "140".repeat(5));
        y.hand(8, 8, 5);
        due("LATE beyond the BOARD", y.heading(4), 40);
    }

    private static void stroke(String saw, String board, int lean, int heading) {
        SawLine x = with(saw, board);
        x.hand(lean, 0, 0);
        due("HEADING of " + saw + " in " + board + ", LEAN " + lean, x.heading(0), heading);
        due("PLACE of " + saw + " in " + board + ", LEAN " + lean, x.where(0), heading);
    }

    private static void headingBounds() {
        says("-99 at least, 99 at most");
        stroke(RIGHT_900, "140", 8, 98);
        stroke(RIGHT_900, "140", 9, 99);
        stroke(RIGHT_900, "150", 9, 99);
        stroke(RIGHT_900, "180", 9, 99);
        stroke(LEFT_900, "140", -8, -98);
        stroke(LEFT_900, "140", -9, -99);
        stroke(LEFT_900, "130", -9, -99);
        stroke(LEFT_900, "100", -9, -99);
        // 103 is 99 behind the first LINE: 99 and 90 and 9, less 9 * 99 by 8, is 87 behind the second.
        SawLine x = with(RIGHT_900, "180140");
        x.hand(9, 9, 0);
        due("HEADING behind one that was 99 at most", x.heading(1), 87);
        due("PLACE behind it", x.where(1), 99 + 87);
        SawLine y = with(LEFT_900, "100140");
        y.hand(-9, 9, 0);
        due("HEADING behind one that was -99 at least", y.heading(1), -87);
    }

    private static void placeBounds() {
        says("then PLACE more by HEADING");
        SawLine x = with("r999h;r999h;r999h;r999h;r999h;r999h;r999h;r999h", "180".repeat(24));
        SawLine y = with("l999h;l999h;l999h;l999h;l999h;l999h;l999h;l999h", "100".repeat(24));
        for (int t = 0; t < 24; t++) {
            due("where(" + t + ")", x.where(t), 99 * (t + 1));
            due("where(" + t + ") to the left", y.where(t), -99 * (t + 1));
        }
        due("OFF", x.off(), 2376);
        due("OFF to the left", y.off(), 2376);
    }

    private static void places(SawLine x, String name, int[] places, int[] headings) {
        for (int t = 0; t < places.length; t++) {
            due(name + ": where(" + t + ")", x.where(t), places[t]);
            due(name + ": heading(" + t + ")", x.heading(t), headings[t]);
        }
    }

    private static void fenceHolds() {
        says("With a FENCE, if PLACE is above it, or below it as much, it is that, HEADING 0.");
        SawLine x = with(IDLE, "140140");
        x.hand(5, 0, 0);
        x.fence(15);
        places(x, "just at it", new int[] {5, 15}, new int[] {5, 10});
        x.fence(14);
        places(x, "one above", new int[] {5, 14}, new int[] {5, 0});
        x.fence(5);
        places(x, "at it, then above", new int[] {5, 5}, new int[] {5, 0});
        x.fence(4);
        places(x, "above at once", new int[] {4, 4}, new int[] {0, 0});
        x.hand(-5, 0, 0);
        x.fence(15);
        places(x, "just at it to the left", new int[] {-5, -15}, new int[] {-5, -10});
        x.fence(14);
        places(x, "one below", new int[] {-5, -14}, new int[] {-5, 0});
        x.fence(1);
        places(x, "the least FENCE", new int[] {-1, -1}, new int[] {0, 0});
        x.fence(0);
        places(x, "none", new int[] {-5, -15}, new int[] {-5, -10});
        // HEADING is 4, then 8, above the FENCE: 0; then GRAIN -4 leads back from it.
        SawLine y = with(IDLE, "180180100");
        y.fence(5);
        places(y, "led back", new int[] {4, 5, 1}, new int[] {4, 0, -4});
        SawLine z = with(RIGHT_900, "140");
        z.hand(9, 0, 0);
        z.fence(99);
        places(z, "the greatest FENCE", new int[] {99}, new int[] {99});
        z.fence(98);
        places(z, "one less", new int[] {98}, new int[] {0});
    }

    private static void pinchedDue(String saw, String board, int at, int strokes) {
        SawLine x = with(saw, board);
        due("pinched() of " + saw + " in " + board, x.pinched(), at);
        due("strokes of " + saw + " in " + board, x.many(4), strokes);
    }

    private static void pinched() {
        says("If CLOSES of a LINE is more than KERF, the CUT is PINCHED there");
        pinchedDue(IDLE, "140141140", NONE, 3);
        pinchedDue(IDLE, "140142140", 1, 1);
        pinchedDue("l411;r411", "149149", NONE, 2);
        pinchedDue("l411;r311", "148149", 1, 1);
        pinchedDue("l911;r911", "149", NONE, 1);
        pinchedDue(IDLE, "149149", 0, 0);
        pinchedDue(IDLE, "140".repeat(23) + "149", 23, 23);
        says("that stroke is not done, nor any behind it.");
        SawLine x = with(IDLE, "180149180");
        due("where(0)", x.where(0), 4);
        for (int t = 1; t < 3; t++) {
            due("where(" + t + ")", x.where(t), LOST);
            due("heading(" + t + ")", x.heading(t), LOST);
            due("marks(" + t + ")", x.marks(t), STATE);
            due("which(" + t + ", 0)", x.which(t, 0), STATE);
        }
        due("many(4)", x.many(4), 1);
        says("Where it is PINCHED; NONE. STATE: as off().");
        due("not at all", with(IDLE, "140").pinched(), NONE);
        due("the first of two", with(IDLE, "140149149").pinched(), 1);
        due("without a SAW", withBoard("149").pinched(), STATE);
        due("without a BOARD", withSaw(IDLE).pinched(), STATE);
        due("without both", new SawLine().pinched(), STATE);
    }

    private static void off() {
        says("OFF: the greatest size of PLACE behind any LINE that was cut.");
        due("the first of three", offBy("180100120"), 4);
        due("to the left", offBy("100180160"), 4);
        due("the midst", offBy("150150110140"), 3);
        due("the last", offBy("180180180"), 24);
        due("one LINE", offBy("130"), 1);
        due("none at all", offBy("140140"), 0);
        due("not behind one that is not cut", offBy("150149180"), 1);
        due("no LINE that was cut", offBy("189"), 0);
        says("STATE: there is no SAW, no BOARD.");
        due("without a SAW", withBoard("140").off(), STATE);
        due("without a BOARD", withSaw(IDLE).off(), STATE);
        due("without both", new SawLine().off(), STATE);
    }

    private static int offBy(String board) {
        return with(IDLE, board).off();
    }

    private static void whereAndHeading() {
        says("LOST: UNKNOWN: LINE; STATE: there is no SAW, it was not cut.");
        SawLine x = with(IDLE, "150150149");
        SawLine[] all = {x, withSaw(IDLE), withBoard("150150150"), new SawLine()};
        for (SawLine y : all) {
            for (int t : new int[] {-1, 2, 3, 24, MIN, MAX}) {
                due("where(" + t + ")", y.where(t), LOST);
                due("heading(" + t + ")", y.heading(t), LOST);
            }
            due("where(0)", y.where(0), y == x ? 1 : LOST);
            due("heading(1)", y.heading(1), y == x ? 2 : LOST);
            due("fault()", y.fault(), 0);
        }
    }

    private static void marks() {
        says("each BENT TOOTH that TAKES something leaves one at PLACE behind it and its BEND (to its side)");
        SawLine x = with("l911;r911;l211h;r301", "140");
        due("marks", x.marks(0), 3);
        long place = x.where(0);
        due("left", x.which(0, (int) place - 9), 1);
        due("right", x.which(0, (int) place + 9), 2);
        due("HOOKED", x.which(0, (int) place - 2), 4);
        due("one that TAKES nothing", x.which(0, (int) place + 3), 0);
        says("others that TAKE something at PLACE.");
        SawLine y = with("c911;c501;c510", "150");
        due("marks", y.marks(0), 1);
        due("at PLACE, whatever BEND it has", y.which(0, 1), 1);
        says("ALIKE ones are one.");
        due("marks of eight alike", with("c111;c211;c311;c411;c511;c611;c711;c811", "140").marks(0), 1);
        due("marks of eight unlike", with("l111;l211;l311;l411;r111;r211;r311;r411", "140").marks(0), 8);
        due("c, and l, r of BEND 0", with("l011;c911;r011", "140").marks(0), 1);
        due("l and r of one BEND", with("l111;r111", "140").marks(0), 2);
        due("one that TAKES nothing ahead of one alike", with("l101;c210;l111;c211", "140").marks(0), 2);
        due("the first and the last alike", with("l111;r111;l111", "140").marks(0), 2);
        due("none that TAKES something", with("l901;c990", "140").marks(0), 0);
        says("UNKNOWN; STATE: there is no SAW, it was not cut.");
        SawLine z = with(IDLE, "140149");
        for (int t : new int[] {-1, 2, MIN, MAX}) {
            due("marks(" + t + ")", z.marks(t), UNKNOWN);
            due("marks(" + t + ") without a SAW", withBoard("140140").marks(t), UNKNOWN);
        }
        due("marks(1) of a LINE that was not cut", z.marks(1), STATE);
        due("marks(0) without a SAW", withBoard("140140").marks(0), STATE);
        due("marks(0) without a BOARD", withSaw(IDLE).marks(0), UNKNOWN);
    }

    private static void which() {
        says("Which TEETH could have left a MARK at a place p (any), as a set.");
        SawLine x = with("c111;c211;c311;c411;c511;c611;c711;c811", "150");
        due("all eight", x.which(0, 1), 255);
        due("none", x.which(0, 0), 0);
        for (int p : new int[] {MIN, MAX, MIN + 1, -1, 257, -255, 65537, -65535}) {
            due("which(0, " + p + ")", x.which(0, p), 0);
        }
        SawLine y = with("l111;c111;c111;c111;c111;c111;c111;r111", "140");
        due("the first alone", y.which(0, -1), 1);
        due("the last alone", y.which(0, 1), 128);
        due("those between", y.which(0, 0), 126);
        says("UNKNOWN: LINE; STATE: as marks().");
        SawLine z = with(IDLE, "140149");
        for (int t : new int[] {-1, 2, MIN, MAX}) {
            due("which(" + t + ", 0)", z.which(t, 0), UNKNOWN);
            due("which(" + t + ", 0) without a SAW", withBoard("140140").which(t, 0), UNKNOWN);
        }
        due("which(1, 0) of a LINE that was not cut", z.which(1, 0), STATE);
        due("which(0, 0) without a SAW", withBoard("140140").which(0, 0), STATE);
        due("which(0, 0) of one that TAKES nothing", z.which(0, 0), 0);
    }

    private static void leanDue(SawLine x, int lean, int off) {
        due("straightest(0)", x.straightest(0), lean);
        due("straightest(2)", x.straightest(2), off);
    }

    private static void straightestLean() {
        says("by LEAN (a HAND as it is else; all of -9 .. 9) the one by which OFF is the least");
        leanDue(with("r925", "140"), -9, 0);
        leanDue(with("l925", "140"), 9, 0);
        leanDue(with("r999", "140"), -9, 63);
        leanDue(with("l999", "140"), 9, 63);
        // GRAIN 4, -4: by LEAN a PLACES 4 + a and, by STEERS 8, 4 + a + 2a - (4 + a) = 2a.
        SawLine x = with(IDLE, "180100");
        leanDue(x, -2, 2);
        x.hand(9, 8, 0);
        leanDue(x, -1, 3);
        // LATE 1 steers by nothing in these two LINES.
        x.hand(9, 8, 1);
        leanDue(x, -2, 2);
        due("LEAN stays", x.ofHand(0), 9);
        says("of several the least size, then the one below 0.");
        // PLACES 3 + a, 4 + 3a: -1 gives 2, 1; -2 gives 1, -2.
        leanDue(with(IDLE, "170120"), -1, 2);
        leanDue(with(IDLE, "110160"), 1, 2);
        // By -1 PLACES 0, -4, -4, -2, -4; by 0 1, -1, -1, -1, -5; by 1 2, 1, 3, 4, -1.
        SawLine z = with(IDLE, "150110160140100");
        z.hand(5, 6, 0);
        leanDue(z, -1, 4);
        // Held by a FENCE of 1 each LEAN is off by 1: none leaves both PLACES at 0.
        SawLine u = with(IDLE, "180100");
        u.fence(1);
        leanDue(u, 0, 1);
        leanDue(with(IDLE, "149"), 0, 0);
    }

    private static void steersDue(SawLine x, int steers, int off) {
        due("straightest(1)", x.straightest(1), steers);
        due("straightest(3)", x.straightest(3), off);
    }

    private static void straightestSteers() {
        says("By STEERS (0 .. 9) likewise; of several the least.");
        SawLine x = with(IDLE, "120160120");
        // LATE 1: PLACES -2, -2, and -4 + s * 2 by 8: 8 and 9 give -2.
        x.hand(0, 3, 1);
        steersDue(x, 8, 2);
        due("STEERS stays", x.ofHand(1), 3);
        SawLine y = with(IDLE, "120100100130");
        // LATE 1: PLACES -2, -8, -18 + s * 2 by 8, so -16 by 8 and 9; then by 9 -16, by 8 -17.
        y.hand(0, 0, 1);
        steersDue(y, 9, 16);
        // LATE 1: by 0 PLACES 3, 9, 11, 9, 3, -7; by 1 the last is -13 already, by more still farther off.
        SawLine v = with(IDLE, "170170100100100100");
        v.hand(0, 0, 1);
        steersDue(v, 0, 11);
        // LATE 1: by 0 the last PLACE is 23, by 1 22, by 2 28; by 9 the last but one is 31.
        SawLine w = with(IDLE, "100180180180130150");
        w.hand(0, 0, 1);
        steersDue(w, 1, 22);
        // One LINE is never steered: all are alike.
        SawLine z = with(IDLE, "180");
        z.hand(0, 9, 0);
        steersDue(z, 0, 4);
        // The LEAN as it is: PLACES 9, 27 - s * 9 by 8; by 9 that is 17.
        SawLine u = with(IDLE, "140140");
        u.hand(9, 0, 0);
        steersDue(u, 9, 17);
        // A FENCE of 9 holds all of them.
        u.fence(9);
        steersDue(u, 0, 9);
        steersDue(with(IDLE, "149"), 0, 0);
    }

    private static void straightestRefusals() {
        says("STRAIGHTEST by LEAN (what 0), by STEERS (1): the number; OFF with it (2, 3).");
        SawLine x = with(IDLE, "150");
        int[] want = {-1, 0, 0, 1};
        for (int what = 0; what < 4; what++) {
            due("straightest(" + what + ")", x.straightest(what), want[what]);
        }
        says("OUTSIDE; STATE: there is no SAW, no BOARD.");
        SawLine[] lacking = {new SawLine(), withSaw(IDLE), withBoard("140")};
        for (int what : new int[] {-1, 4, MIN, MAX}) {
            due("straightest(" + what + ")", x.straightest(what), OUTSIDE);
            for (SawLine y : lacking) {
                due("straightest(" + what + ") without all", y.straightest(what), OUTSIDE);
            }
        }
        for (int what = 0; what < 4; what++) {
            for (SawLine y : lacking) {
                due("straightest(" + what + ") without all", y.straightest(what), STATE);
            }
        }
    }
}
