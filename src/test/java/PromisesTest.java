/** Each promise of the document by itself: ordinary inputs, its edges, and wrong inputs. */
public final class PromisesTest extends Bench {
    private static final Due DUE = new Due("PromisesTest");

    private PromisesTest() {
    }

    public static void main(String[] args) {
        newObject();
        sawTexts();
        sawRefusals();
        sawChanges();
        ofTooth();
        set();
        ofSaw();
        boardTexts();
        boardRefusalsAndChanges();
        ofLine();
        hand();
        fence();
        cutByHand();
        cutEdges();
        pinchedCut();
        marksAndWhich();
        straightest();
        flaws();
        readings();
        likely();
        act();
        mend();
        mendTies();
        log();
        logRefusals();
        sheets();
        putAndCell();
        copy();
        telling();
        as();
        fault();
        many();
        DUE.end();
    }

    private static void due(String call, long got, long want) {
        DUE.is(call, got, want);
    }

    private static void newObject() {
        SawLine x = new SawLine();
        for (int what = 0; what < 5; what++) {
            due("1 many(" + what + ")", x.many(what), 0);
        }
        for (int k = 0; k < 4; k++) {
            due("1 cell(" + k + ", 0, 0)", x.cell(k, 0, 0), LOST);
            due("1 fault()", x.fault(), 1);
            due("1 lose(" + k + ")", x.lose(k), 0);
        }
        SawLine y = new SawLine();
        due("1 fault()", y.fault(), 0);
        due("1 trace()", y.trace(), 0);
        due("1 ofHand(0)", y.ofHand(0), 0);
        due("1 ofHand(1)", y.ofHand(1), 0);
        due("1 ofHand(2)", y.ofHand(2), 0);
        due("1 fence(0)", y.fence(0), 0);
        due("1 ofTooth(0, 0)", y.ofTooth(0, 0), UNKNOWN);
        due("1 ofLine(0, 0)", y.ofLine(0, 0), UNKNOWN);
        due("1 ofFlaw(0, 0)", y.ofFlaw(0, 0), UNKNOWN);
    }

    private static void sawTexts() {
        String eight = "l111;c222;r333;l444;c555;r666;l777;r999";
        Object[][] texts = {
            {"", -100}, {"x", -100}, {"h", -100}, {";", -100}, {"L345", -100}, {"0", -100},
            {"l", -101}, {"l3", -102}, {"l34", -103}, {"l345", 1}, {"l345h", 1}, {"r000h", 1},
            {"c345", 1}, {"c345h", -104}, {"l345hh", -105}, {"l345h;", -106}, {"l345;", -105},
            {"l345;;", -105}, {"l345h;c000", 2}, {"l345;c000h", -109}, {"la45", -101},
            {"l3h5", -102}, {"l34;", -103}, {"l3456", -104}, {"l345r", -104}, {"l34/", -103},
            {"l34:", -103}, {"l345h5", -105}, {eight, 8}, {eight + "h", 8}, {eight + ";", -139},
            {eight + ";l111", -139}, {eight + "h;", -140}, {eight + "x", -139}};
        for (Object[] t : texts) {
            SawLine x = new SawLine();
            due("2 saw of " + t[0], saw(x, (String) t[0]), (Integer) t[1]);
            due("2 fault()", x.fault(), 0);
        }
    }

    private static void sawRefusals() {
        SawLine x = new SawLine();
        due("2 saw(4, 3, -1, -1)", x.saw(4, 3, -1, -1), UNKNOWN);
        due("2 saw(-1, 0, 0, 0)", x.saw(-1, 0, 0, 0), UNKNOWN);
        due("2 saw(0, 3, -1, -1)", x.saw(0, 3, -1, -1), OUTSIDE);
        due("2 saw(0, -1, -1, -1)", x.saw(0, -1, -1, -1), OUTSIDE);
        due("2 saw(0, 1, -1, -1) of nothing", x.saw(0, 1, -1, -1), NULL);
        due("2 fault()", x.fault(), 1);
        write(x, 0, 0, "xl345");
        due("2 saw(0, 1, -1, -1)", x.saw(0, 1, -1, -1), CAST);
        due("2 fault()", x.fault(), 2);
        due("2 saw(0, 0, -1, -1)", x.saw(0, 0, -1, -1), SIZE);
        due("2 saw(0, 0, 0, MIN)", x.saw(0, 0, 0, MIN), SIZE);
        due("2 fault()", x.fault(), 4);
        due("2 saw(0, 0, -1, 0)", x.saw(0, 0, -1, 0), INDEX);
        due("2 saw(0, 0, 6, 0)", x.saw(0, 0, 6, 0), INDEX);
        due("2 saw(0, 0, 1, MAX)", x.saw(0, 0, 1, MAX), INDEX);
        due("2 saw(0, 0, MAX, MAX)", x.saw(0, 0, MAX, MAX), INDEX);
        due("2 saw(0, 0, 2, 4)", x.saw(0, 0, 2, 4), INDEX);
        due("2 fault()", x.fault(), 3);
        due("2 saw(0, 0, 5, 0)", x.saw(0, 0, 5, 0), -100);
        due("2 fault()", x.fault(), 0);
        due("2 saw(0, 0, 1, 4)", x.saw(0, 0, 1, 4), 1);
        due("2 saw(0, 0, 2, 3): places are counted in the text", x.saw(0, 0, 2, 3), -100);
        x.put(0, 2, '3' + 256);
        due("2 saw of a cell cut to a byte", x.saw(0, 0, 1, 4), 1);
        write(x, 1, 2, "l345");
        x.put(1, 1, '3' + 256);
        due("2 saw of a code beyond a byte", x.saw(1, 2, 0, 4), -101);
    }

    private static void sawChanges() {
        SawLine x = with("l111;r222", "140140");
        x.hand(3, 2, 1);
        x.fence(50);
        x.flaw(0, 0, 5);
        x.reading(0, 1);
        due("2 a faulty text", saw(x, "l345;q"), -105);
        due("2 TEETH stay", x.many(0), 2);
        due("2 BEND stays", x.ofTooth(0, 2), 1);
        due("2 FLAWS stay", x.many(2), 1);
        due("2 READINGS stay", x.many(3), 1);
        due("2 a whole text", saw(x, "c999"), 1);
        due("2 no FLAWS then", x.many(2), 0);
        due("2 no READINGS then", x.many(3), 0);
        due("2 LINES stay", x.many(1), 2);
        due("2 LEAN stays", x.ofHand(0), 3);
        due("2 FENCE stays", x.fence(0), 50);
        due("2 no second TOOTH then", x.ofTooth(1, 0), UNKNOWN);
    }

    private static void ofTooth() {
        SawLine x = new SawLine();
        saw(x, "l349h;c945;r209h;r290");
        int[][] want = {{2, -1, 3, 4, 9, 38, -114}, {0, 0, 9, 4, 5, 20, 0}, {2, 1, 2, 0, 9, 0, 0},
            {1, 1, 2, 9, 0, 0, 0}};
        for (int k = 0; k < want.length; k++) {
            for (int what = 0; what < 7; what++) {
                due("3 ofTooth(" + k + ", " + what + ")", x.ofTooth(k, what), want[k][what]);
            }
        }
        due("3 ofTooth(0, 7)", x.ofTooth(0, 7), OUTSIDE);
        due("3 ofTooth(0, -1)", x.ofTooth(0, -1), OUTSIDE);
        due("3 ofTooth(4, 7)", x.ofTooth(4, 7), UNKNOWN);
        due("3 ofTooth(-1, 0)", x.ofTooth(-1, 0), UNKNOWN);
    }

    private static void set() {
        SawLine x = new SawLine();
        due("4 set(0, 0, 0) without a SAW", x.set(0, 0, 0), UNKNOWN);
        saw(x, "l345;c111");
        due("4 set(0, 0, 9)", x.set(0, 0, 9), 3);
        due("4 set(0, 1, 0)", x.set(0, 1, 0), 4);
        due("4 set(0, 2, 7)", x.set(0, 2, 7), 5);
        due("4 set(0, 2, 7)", x.set(0, 2, 7), 7);
        due("4 set(1, 0, 8): a c TOOTH has a BEND", x.set(1, 0, 8), 1);
        due("4 ofTooth(0, 2)", x.ofTooth(0, 2), 9);
        due("4 ofTooth(0, 3)", x.ofTooth(0, 3), 0);
        due("4 ofTooth(0, 4)", x.ofTooth(0, 4), 7);
        due("4 ofTooth(1, 6)", x.ofTooth(1, 6), 0);
        due("4 set(2, 9, 99)", x.set(2, 9, 99), UNKNOWN);
        due("4 set(0, 3, 0)", x.set(0, 3, 0), OUTSIDE);
        due("4 set(0, -1, 0)", x.set(0, -1, 0), OUTSIDE);
        due("4 set(0, 0, -1)", x.set(0, 0, -1), OUTSIDE);
        due("4 set(0, 0, 10)", x.set(0, 0, 10), OUTSIDE);
        due("4 ofTooth(0, 2)", x.ofTooth(0, 2), 9);
    }

    private static void ofSaw() {
        SawLine x = new SawLine();
        due("5 ofSaw(3) without a SAW", x.ofSaw(3), OUTSIDE);
        due("5 ofSaw(0) without a SAW", x.ofSaw(0), STATE);
        saw(x, "l122;l311h;l990;r211;c955");
        due("5 ofSaw(0)", x.ofSaw(0), -4 - 9 + 2);
        due("5 ofSaw(1)", x.ofSaw(1), 1 + 3 + 2);
        due("5 ofSaw(2)", x.ofSaw(2), 4 + 3 + 1 + 25);
        due("5 ofSaw(-1)", x.ofSaw(-1), OUTSIDE);
        saw(x, "c999");
        due("5 KERF of c TEETH", x.ofSaw(1), 1);
        saw(x, "l900;r090h");
        due("5 KERF of TEETH that TAKE nothing", x.ofSaw(1), 1);
    }

    private static void boardTexts() {
        StringBuilder most = new StringBuilder();
        for (int t = 0; t < 24; t++) {
            most.append("149");
        }
        Object[][] texts = {
            {"", -100}, {"1", -101}, {"14", -102}, {"140", 1}, {"0", -100}, {"040", -100},
            {"980", 1}, {"190", -101}, {"100", 1}, {"149", 1}, {"14:", -102}, {"14/", -102},
            {"1400", -103}, {"140;", -103}, {"1401", -104}, {"140140", 2}, {"14014", -105},
            {"l", -100}, {most.toString(), 24}, {most + "1", -172}, {most + "149", -172}};
        for (Object[] t : texts) {
            SawLine x = new SawLine();
            due("6 board of " + t[0], board(x, (String) t[0]), (Integer) t[1]);
            due("6 fault()", x.fault(), 0);
        }
    }

    private static void boardRefusalsAndChanges() {
        SawLine x = new SawLine();
        due("6 board(4, 3, -1, -1)", x.board(4, 3, -1, -1), UNKNOWN);
        due("6 board(0, 3, -1, -1)", x.board(0, 3, -1, -1), OUTSIDE);
        due("6 board(0, 1, -1, -1) of nothing", x.board(0, 1, -1, -1), NULL);
        write(x, 0, 1, "x140");
        due("6 board(0, 2, -1, -1)", x.board(0, 2, -1, -1), CAST);
        due("6 board(0, 1, -1, -1)", x.board(0, 1, -1, -1), SIZE);
        due("6 board(0, 1, 2, 3)", x.board(0, 1, 2, 3), INDEX);
        due("6 board(0, 1, 5, 0)", x.board(0, 1, 5, 0), INDEX);
        due("6 board(0, 1, 4, 0)", x.board(0, 1, 4, 0), -100);
        due("6 board(0, 1, 1, 3)", x.board(0, 1, 1, 3), 1);
        saw(x, "l111");
        x.flaw(0, 0, 2);
        x.reading(0, 0);
        due("6 a faulty text", board(x, "140x"), -103);
        due("6 LINES stay", x.many(1), 1);
        due("6 READINGS stay", x.many(3), 1);
        due("6 a whole text", board(x, "580580"), 2);
        due("6 no READINGS then", x.many(3), 0);
        due("6 FLAWS stay", x.many(2), 1);
        due("6 TEETH stay", x.many(0), 1);
    }

    private static void ofLine() {
        SawLine x = new SawLine();
        due("7 ofLine(0, 0) without a BOARD", x.ofLine(0, 0), UNKNOWN);
        board(x, "109987");
        int[][] want = {{1, -4, 9}, {9, 4, 7}};
        for (int t = 0; t < 2; t++) {
            for (int what = 0; what < 3; what++) {
                due("7 ofLine(" + t + ", " + what + ")", x.ofLine(t, what), want[t][what]);
            }
        }
        due("7 ofLine(1, 3)", x.ofLine(1, 3), OUTSIDE);
        due("7 ofLine(1, -1)", x.ofLine(1, -1), OUTSIDE);
        due("7 ofLine(2, 3)", x.ofLine(2, 3), UNKNOWN);
        due("7 ofLine(-1, 0)", x.ofLine(-1, 0), UNKNOWN);
    }

    private static void hand() {
        SawLine x = new SawLine();
        due("8 hand(-9, 9, 5)", x.hand(-9, 9, 5), 1);
        int[][] wrong = {{10, 0, 0}, {-10, 0, 0}, {0, 10, 0}, {0, -1, 0}, {0, 0, 6}, {0, 0, -1}};
        for (int[] w : wrong) {
            due("8 hand(" + w[0] + ", " + w[1] + ", " + w[2] + ")", x.hand(w[0], w[1], w[2]), OUTSIDE);
        }
        due("9 ofHand(0)", x.ofHand(0), -9);
        due("9 ofHand(1)", x.ofHand(1), 9);
        due("9 ofHand(2)", x.ofHand(2), 5);
        due("9 ofHand(3)", x.ofHand(3), OUTSIDE);
        due("9 ofHand(-1)", x.ofHand(-1), OUTSIDE);
        due("8 hand(9, 0, 0)", x.hand(9, 0, 0), 1);
        due("9 ofHand(0)", x.ofHand(0), 9);
    }

    private static void fence() {
        SawLine x = new SawLine();
        due("10 fence(99)", x.fence(99), 0);
        due("10 fence(100)", x.fence(100), OUTSIDE);
        due("10 fence(-1)", x.fence(-1), OUTSIDE);
        due("10 fence(1)", x.fence(1), 99);
        due("10 fence(0)", x.fence(0), 1);
        due("10 fence(0)", x.fence(0), 0);
    }

    private static void path(String name, SawLine x, int[] places, int[] headings) {
        for (int t = 0; t < places.length; t++) {
            due("11 " + name + ": where(" + t + ")", x.where(t), places[t]);
            due("12 " + name + ": heading(" + t + ")", x.heading(t), headings[t]);
        }
        due("37 " + name + ": many(4)", x.many(4), places.length);
    }

    private static void cutByHand() {
        // PUSH is 81 * 9 = 729: 72 by 10, 24 by 30, 8 by 90.
        SawLine x = with("r999", "140300980");
        path("push and grain", x, new int[] {72, 164, 263}, new int[] {72, 92, 99});
        due("13 off()", x.off(), 263);
        due("14 pinched()", x.pinched(), NONE);
        x.fence(99);
        path("fence", x, new int[] {72, 99, 99}, new int[] {72, 0, 0});
        x.fence(72);
        path("a fence that is just reached", x, new int[] {72, 72, 72}, new int[] {72, 0, 0});
        // PUSH is -729, to the left.
        SawLine y = with("l999", "140340980");
        path("left", y, new int[] {-72, -168, -267}, new int[] {-72, -96, -99});
        due("13 off() to the left", y.off(), 267);
        y.fence(50);
        path("fence to the left", y, new int[] {-50, -50, -54 + 4}, new int[] {0, 0, 0});
        // Steering by 9 * PLACE by 8, of one stroke ago, then two ago, cut towards 0.
        SawLine z = with("c111", "140140140140140");
        z.hand(3, 9, 0);
        path("steered at once", z, new int[] {3, 6, 6, 3, 0}, new int[] {3, 3, 0, -3, -3});
        z.hand(-3, 9, 1);
        path("steered late", z, new int[] {-3, -9, -15, -14, 0}, new int[] {-3, -6, -6, 1, 14});
        z.hand(1, 7, 5);
        path("steered by nothing yet", z, new int[] {1, 3, 6, 10, 15}, new int[] {1, 2, 3, 4, 5});
        z.hand(0, 9, 0);
        due("13 off() of a straight CUT", z.off(), 0);
    }

    private static void cutEdges() {
        SawLine x = new SawLine();
        due("11 where(0) without all", x.where(0), LOST);
        due("13 off() without all", x.off(), STATE);
        due("14 pinched() without all", x.pinched(), STATE);
        saw(x, "l999");
        due("11 where(0) without a BOARD", x.where(0), LOST);
        due("13 off() without a BOARD", x.off(), STATE);
        due("14 pinched() without a BOARD", x.pinched(), STATE);
        SawLine y = new SawLine();
        board(y, "140");
        due("11 where(0) without a SAW", y.where(0), LOST);
        due("12 heading(0) without a SAW", y.heading(0), LOST);
        due("13 off() without a SAW", y.off(), STATE);
        due("14 pinched() without a SAW", y.pinched(), STATE);
        due("15 marks(0) without a SAW", y.marks(0), STATE);
        due("16 which(0, 0) without a SAW", y.which(0, 0), STATE);
        due("37 many(4) without a SAW", y.many(4), 0);
        saw(y, "r999;r999;r999;r999;r999;r999;r999;r999");
        path("99 at most", y, new int[] {99}, new int[] {99});
        saw(y, "l999;l999;l999;l999;l999;l999;l999;l999");
        path("-99 at least", y, new int[] {-99}, new int[] {-99});
        due("11 where(1)", y.where(1), LOST);
        due("11 where(-1)", y.where(-1), LOST);
        due("12 heading(1)", y.heading(1), LOST);
        due("12 heading(MIN)", y.heading(MIN), LOST);
        due("37 fault() is not of where()", y.fault(), 0);
    }

    private static void pinchedCut() {
        // KERF is 1 + 2 + 3.
        SawLine x = with("l211;r311", "146140147140");
        path("pinched", x, new int[] {0, 0}, new int[] {0, 0});
        due("14 pinched()", x.pinched(), 2);
        due("11 where(2)", x.where(2), LOST);
        due("12 heading(3)", x.heading(3), LOST);
        due("15 marks(2)", x.marks(2), STATE);
        due("15 marks(4)", x.marks(4), UNKNOWN);
        due("16 which(3, 0)", x.which(3, 0), STATE);
        due("16 which(4, 0)", x.which(4, 0), UNKNOWN);
        x.set(0, 1, 0);
        due("14 pinched() with a lesser KERF", x.pinched(), 0);
        due("37 many(4)", x.many(4), 0);
        due("13 off() of no stroke", x.off(), 0);
        x.set(0, 1, 1);
        x.set(0, 0, 3);
        due("14 pinched() with a greater KERF", x.pinched(), NONE);
    }

    private static void marksAndWhich() {
        SawLine x = with("l211;r311;c911;r311h;l290;r011;c505", "140");
        x.hand(4, 0, 0);
        // PUSH: -2 + 3 + 9 = 10, so PLACE is 1 and 4.
        due("11 where(0)", x.where(0), 5);
        due("15 marks(0)", x.marks(0), 3);
        due("16 which(0, 3)", x.which(0, 3), 1);
        due("16 which(0, 8)", x.which(0, 8), 2 | 8);
        due("16 which(0, 5): c, and r of no BEND", x.which(0, 5), 4 | 32);
        due("16 which(0, 4)", x.which(0, 4), 0);
        due("16 which(0, MAX)", x.which(0, MAX), 0);
        due("16 which(0, MIN)", x.which(0, MIN), 0);
        due("16 which(-1, 0)", x.which(-1, 0), UNKNOWN);
        due("15 marks(-1)", x.marks(-1), UNKNOWN);
        saw(x, "c100");
        due("15 marks(0) of nothing TAKEN", x.marks(0), 0);
    }

    private static void straightest() {
        SawLine x = new SawLine();
        due("17 straightest(4) without all", x.straightest(4), OUTSIDE);
        due("17 straightest(0) without all", x.straightest(0), STATE);
        saw(x, "c111");
        due("17 straightest(0) without a BOARD", x.straightest(0), STATE);
        board(x, "150");
        x.hand(7, 3, 2);
        due("17 straightest(0)", x.straightest(0), -1);
        due("17 straightest(2)", x.straightest(2), 0);
        due("17 straightest(1): alike all", x.straightest(1), 0);
        due("17 straightest(3)", x.straightest(3), 8);
        due("9 the HAND stays", x.ofHand(0), 7);
        due("17 straightest(-1)", x.straightest(-1), OUTSIDE);
        // GRAIN 1, -2, -2: by LEAN 0 PLACES 1, 0, -3; by 1 2, 3, 3; by -1 0, -3, -9.
        board(x, "150120120");
        x.hand(0, 0, 0);
        due("17 straightest(0) of alike ones", x.straightest(0), 0);
        due("17 straightest(2) of alike ones", x.straightest(2), 3);
        // GRAIN 1, -3: OFF by LEAN -1 is 3, by 0 1, by 1 2.
        board(x, "150110");
        due("17 straightest(0)", x.straightest(0), 0);
        due("17 straightest(2)", x.straightest(2), 1);
        board(x, "140");
        x.hand(9, 9, 0);
        due("17 straightest(0) of no turn", x.straightest(0), 0);
        due("17 off() is as it was", x.off(), 9);
        // With a FENCE of 1 all LEANS but 0 come to 1; with GRAIN 1, -2 even 0 does.
        x.fence(1);
        board(x, "150120");
        due("17 straightest(0) by a FENCE", x.straightest(0), -1 + 1);
        due("17 straightest(2) by a FENCE", x.straightest(2), 1);
        steersOnly();
    }

    private static void steersOnly() {
        // GRAIN 4 each: by STEERS s HEADING goes on by 4 less s * PLACE by 8.
        SawLine x = with("c111", "180180180");
        // s 0: 4, 12, 24. s 4: 4, 10, 15. s 8: 4, 8, 8. s 9: 4, 8, 7.
        due("17 straightest(1): the least of 8 and 9", x.straightest(1), 8);
        due("17 straightest(3)", x.straightest(3), 8);
        due("9 STEERS stays", x.ofHand(1), 0);
        // LEAN a: HEADING -2+a, -1+2a, 1+3a; PLACE -2+a, -3+3a, -2+6a.
        // -1: 3, 6, 8; 0: 2, 3, 2; 1: 1, 0, 4.
        SawLine y = with("c111", "120150160");
        due("17 straightest(0)", y.straightest(0), 0);
        due("17 straightest(2)", y.straightest(2), 3);
        // By -1 PLACES 0, -4, -4, -2, -4; by 0 1, -1, -1, -1, -5; by 1 2, 1, 3, 4, -1.
        SawLine z = with("c111", "150110160140100");
        z.hand(5, 6, 0);
        due("17 straightest(0) of -1 and 1", z.straightest(0), -1);
        due("17 straightest(2) of -1 and 1", z.straightest(2), 4);
    }

    private static void flaws() {
        SawLine x = new SawLine();
        due("18 flaw(0, 3, 10) without a SAW", x.flaw(0, 3, 10), UNKNOWN);
        saw(x, "l345;c111");
        due("18 flaw(2, 3, 10)", x.flaw(2, 3, 10), UNKNOWN);
        due("18 flaw(-1, 0, 0)", x.flaw(-1, 0, 0), UNKNOWN);
        due("18 flaw(0, 3, 0)", x.flaw(0, 3, 0), OUTSIDE);
        due("18 flaw(0, -1, 0)", x.flaw(0, -1, 0), OUTSIDE);
        due("18 flaw(0, 0, 10)", x.flaw(0, 0, 10), OUTSIDE);
        due("18 flaw(0, 0, -1)", x.flaw(0, 0, -1), OUTSIDE);
        for (int q = 0; q < 6; q++) {
            due("18 flaw " + q, x.flaw(q % 2, q % 3, 9 - q), q);
        }
        due("18 a seventh", x.flaw(0, 0, 0), FULL);
        due("18 a seventh that is wrong too", x.flaw(0, 0, 10), OUTSIDE);
        for (int q = 0; q < 6; q++) {
            due("19 ofFlaw(" + q + ", 0)", x.ofFlaw(q, 0), q % 2);
            due("19 ofFlaw(" + q + ", 1)", x.ofFlaw(q, 1), q % 3);
            due("19 ofFlaw(" + q + ", 2)", x.ofFlaw(q, 2), 9 - q);
        }
        due("19 ofFlaw(0, 3)", x.ofFlaw(0, 3), OUTSIDE);
        due("19 ofFlaw(0, -1)", x.ofFlaw(0, -1), OUTSIDE);
        due("19 ofFlaw(6, 3)", x.ofFlaw(6, 3), UNKNOWN);
        due("19 ofFlaw(-1, 0)", x.ofFlaw(-1, 0), UNKNOWN);
        due("3 a FLAW is but told", x.ofTooth(0, 2), 3);
        saw(x, "c111");
        due("18 the first FLAW of a new SAW", x.flaw(0, 0, 0), 0);
    }

    private static void readings() {
        SawLine x = new SawLine();
        due("20 reading(0, 0) without a BOARD", x.reading(0, 0), UNKNOWN);
        due("21 back(0)", x.back(0), 0);
        due("21 back(1)", x.back(1), OUTSIDE);
        board(x, "140140");
        for (int r = 0; r < 8; r++) {
            due("20 reading " + r, x.reading(r % 2, r * 1000000), r);
        }
        due("20 a ninth", x.reading(0, 0), FULL);
        due("20 a ninth of no LINE", x.reading(2, 0), UNKNOWN);
        due("20 reading(-1, 0)", x.reading(-1, 0), UNKNOWN);
        due("21 back(9)", x.back(9), OUTSIDE);
        due("21 back(-1)", x.back(-1), OUTSIDE);
        due("21 back(3)", x.back(3), 5);
        due("20 the next", x.reading(0, 0), 5);
        due("21 back(6)", x.back(6), 0);
        due("37 many(3)", x.many(3), 0);
    }

    private static void likely() {
        SawLine x = new SawLine();
        due("22 likely(2) without all", x.likely(2), OUTSIDE);
        due("22 likely(-1)", x.likely(-1), OUTSIDE);
        due("22 likely(0) without all", x.likely(0), STATE);
        saw(x, "l345;r345");
        x.flaw(0, 0, 5);
        due("22 likely(0) without a BOARD", x.likely(0), STATE);
        due("23 each(0) without a BOARD", x.each(0), STATE);
        due("23 each(1)", x.each(1), UNKNOWN);
        due("23 each(-1)", x.each(-1), UNKNOWN);
        board(x, "140140");
        due("22 no READING: all sets", x.likely(0), 2);
        // BENDS 3 and 3 go straight; 5 and 3 push -40, 3 and 5 push 40, 5 and 5 nothing.
        x.flaw(1, 0, 5);
        x.flaw(0, 0, 3);
        due("22 all sets of three", x.likely(0), 7);
        x.reading(0, 0);
        // {}, {2}, {0, 1}, {0, 2}: of 0 and 2 the latter comes behind.
        due("22 likely(0)", x.likely(0), 4);
        due("22 likely(1)", x.likely(1), 0);
        due("23 each(0)", x.each(0), 2);
        due("23 each(1)", x.each(1), 1);
        due("23 each(2)", x.each(2), 2);
        x.back(1);
        x.reading(1, 12);
        // PUSH 40: HEADING 4, 8: {1}, {1, 2}.
        due("22 likely(0)", x.likely(0), 2);
        due("22 likely(1)", x.likely(1), 2);
        x.reading(0, 5);
        due("22 likely(0) of none", x.likely(0), 0);
        due("22 likely(1) of none", x.likely(1), NONE);
        due("23 each(1) of none", x.each(1), 0);
        due("3 the SAW stays", x.ofTooth(1, 2), 3);
        likelyOfPinched();
    }

    private static void likelyOfPinched() {
        SawLine x = with("l245;r245", "140146");
        x.flaw(0, 0, 3);
        x.flaw(1, 0, 3);
        x.flaw(0, 0, 9);
        x.reading(1, 0);
        due("22 a LINE that is not cut is not so", x.likely(0), 1);
        due("22 likely(1)", x.likely(1), 3);
    }

    private static void act() {
        SawLine x = new SawLine();
        due("24 act(0, 4) without a SAW", x.act(0, 4), UNKNOWN);
        saw(x, "l017;c187;r920h;c508");
        due("24 STONE at 0", x.act(0, 1), 0);
        due("24 BEND from 0", x.act(0, 2), 1);
        due("3 BEND", x.ofTooth(0, 2), 1);
        due("24 STONE", x.act(0, 1), 1);
        due("3 BEND", x.ofTooth(0, 2), 0);
        due("24 FILE", x.act(0, 0), 1);
        due("3 HEIGHT", x.ofTooth(0, 3), 0);
        due("3 EDGE", x.ofTooth(0, 4), 9);
        due("24 FILE of no HEIGHT, EDGE", x.act(0, 0), 0);
        due("24 BREAK of no HEIGHT", x.act(0, 3), 0);
        due("24 STONE a c", x.act(1, 1), 0);
        due("24 BEND a c", x.act(1, 2), 0);
        due("24 FILE a c", x.act(1, 0), 1);
        due("24 FILE above 9", x.act(1, 0), 0);
        due("3 HEIGHT", x.ofTooth(1, 3), 7);
        due("24 BREAK a c", x.act(1, 3), 1);
        due("3 HEIGHT", x.ofTooth(1, 3), 0);
        due("24 BEND above 9", x.act(2, 2), 0);
        due("24 FILE", x.act(2, 0), 1);
        due("24 FILE", x.act(2, 0), 1);
        due("24 FILE below 0", x.act(2, 0), 0);
        due("3 EDGE", x.ofTooth(2, 4), 4);
        due("24 FILE of EDGE 8, HEIGHT 0", x.act(3, 0), 0);
        due("24 act(0, 4)", x.act(0, 4), OUTSIDE);
        due("24 act(0, -1)", x.act(0, -1), OUTSIDE);
        due("24 act(4, 4)", x.act(4, 4), UNKNOWN);
        due("24 act(-1, 0)", x.act(-1, 0), UNKNOWN);
    }

    private static void row(String name, SawLine x, int m, int... want) {
        for (int q = -2; q < 2; q++) {
            due("25 " + name + ": mend(" + m + ", " + q + ")", x.mend(m, q), want[q + 2]);
        }
    }

    private static void mend() {
        SawLine x = new SawLine();
        due("25 mend(-1, 2) without all", x.mend(-1, 2), OUTSIDE);
        due("25 mend(10000, -3)", x.mend(10000, -3), OUTSIDE);
        due("25 mend(0, 2)", x.mend(0, 2), UNKNOWN);
        due("25 mend(0, -3)", x.mend(0, -3), UNKNOWN);
        due("25 mend(0, 0) without all", x.mend(0, 0), STATE);
        saw(x, "l245;r445");
        due("25 mend(0, 0) without a BOARD", x.mend(0, 0), STATE);
        board(x, "140");
        // PUSH is -40 + 80: each act of a BEND goes by 20, so PLACE by 2.
        row("as it is", x, 4, 0, 0, NONE, NONE);
        row("9999", x, 9999, 0, 0, NONE, NONE);
        row("one act", x, 2, 1, 1, 2, NONE);
        row("two acts", x, 0, 2, 2, 2, 2);
        x.act(0, 2);
        row("one act then", x, 0, 1, 1, 2, NONE);
        due("3 mend() mends nothing", x.ofTooth(0, 2), 3);
        SawLine y = with("r999;r999", "140");
        row("none", y, 0, 2, 8, 3, 13);
        y = with("r999;r999;r999", "140");
        row("none", y, 0, NONE, NONE, NONE, NONE);
        y = with("c999", "141142");
        row("a KERF that no act mends", y, 9999, NONE, NONE, NONE, NONE);
        y = with("r011", "142");
        row("a KERF that an act mends", y, 9999, 1, 1, 2, NONE);
        y = with("r001;l011", "143");
        row("a KERF that two acts mend", y, 9999, 2, 2, 12, 12);
    }

    private static void mendTies() {
        // PUSH 54 to the right, 18 less by a STONE of 0, a BEND of 1: four rows of two come to 18.
        SawLine x = with("r429;l129", "140");
        row("of several the first as a row", x, 1, 2, 2, 1, 1);
        SawLine u = with("r149;r149", "140");
        row("each of both, the lower TOOTH first", u, 0, 2, 2, 1, 11);
        // BREAK costs 4; two acts of a BEND cost 2; FILE costs 2 and is one act.
        SawLine y = with("r115;l111", "140");
        due("5 PUSH", y.ofSaw(0), 4);
        row("within 0", y, 0, 0, 0, NONE, NONE);
        // HEIGHT 1 to 0 by a FILE (cost 2, one act), 9 BENDS by STONE would need many acts.
        SawLine z = with("r915", "140");
        due("5 PUSH", z.ofSaw(0), 45);
        row("a FILE is shorter than two STONES", z, 3, 1, 2, 0, NONE);
        row("a FILE alone goes to 0", z, 0, 1, 2, 0, NONE);
        // The second act is of a saw that the first one changed: BREAK, then FILE is none.
        SawLine w = with("r999;c111", "150");
        due("11 where(0)", w.where(0), 73);
        row("BREAK", w, 1, 1, 4, 3, NONE);
        row("nothing mends GRAIN", w, 0, NONE, NONE, NONE, NONE);
        // FILE twice of one TOOTH: HEIGHT 2 to 0.
        SawLine v = with("r922", "140140");
        due("11 where(1)", v.where(1), 9);
        row("BREAK and two FILES cost alike: the shorter", v, 0, 1, 4, 3, NONE);
    }

    private static int orderCost(SawLine x, int... strains) {
        x.sheet(0, 2, strains.length);
        for (int s = 0; s < strains.length; s++) {
            x.put(0, s, strains[s]);
        }
        return x.log(0, 2, 0, strains.length, -1);
    }

    private static void order(SawLine x, int n, int... cuts) {
        for (int q = 0; q < 6; q++) {
            due("26 log of " + n + ", " + q, x.log(0, 2, 0, n, q), q < cuts.length ? cuts[q] : NONE);
        }
    }

    private static void log() {
        SawLine x = new SawLine();
        due("26 two slabs", orderCost(x, 9, -9), 18);
        order(x, 2, 0);
        due("26 none strained", orderCost(x, 0, 0, 0, 0, 0, 0, 0), 0);
        order(x, 7, 0, 1, 2, 3, 4, 5);
        // Cut 0 first: |1 - 11| + |2 - 9|; cut 1 first: |3 - 9| + |1 - 2|.
        due("26 three slabs", orderCost(x, 1, 2, 9), 7);
        order(x, 3, 1, 0);
        due("26 three slabs, the first", orderCost(x, 9, 2, 1), 7);
        order(x, 3, 0, 1);
        // Cut 0 first: |3 - 3| + 7; cut 1 first: |1 - 5| + 5.
        due("26 three slabs, below 0", orderCost(x, 3, -2, 5), 7);
        order(x, 3, 0, 1);
        due("26 as told by the document's test", orderCost(x, 3, -2, 5, 0), 10);
        order(x, 4, 0, 2, 1);
    }

    private static void logRefusals() {
        SawLine x = new SawLine();
        due("26 log(4, 3, -1, -1, 9)", x.log(4, 3, -1, -1, 9), UNKNOWN);
        due("26 log(0, 3, -1, -1, 9)", x.log(0, 3, -1, -1, 9), OUTSIDE);
        due("26 log(0, 0, -1, -1, 9) of nothing", x.log(0, 0, -1, -1, 9), NULL);
        x.sheet(0, 0, 9);
        due("26 log(0, 1, -1, -1, 9)", x.log(0, 1, -1, -1, 9), CAST);
        due("26 log(0, 0, -1, -1, 9)", x.log(0, 0, -1, -1, 9), SIZE);
        due("26 log(0, 0, -1, 0, 9)", x.log(0, 0, -1, 0, 9), INDEX);
        due("26 log(0, 0, 8, 2, 9)", x.log(0, 0, 8, 2, 9), INDEX);
        due("26 fault()", x.fault(), 3);
        due("26 log(0, 0, 0, 1, 9)", x.log(0, 0, 0, 1, 9), OUTSIDE);
        due("26 fault()", x.fault(), 0);
        due("26 log(0, 0, 0, 8, 9)", x.log(0, 0, 0, 8, 9), OUTSIDE);
        due("26 log(0, 0, 9, 0, 0)", x.log(0, 0, 9, 0, 0), OUTSIDE);
        due("26 log(0, 0, 0, 7, 6)", x.log(0, 0, 0, 7, 6), UNKNOWN);
        due("26 log(0, 0, 0, 7, -2)", x.log(0, 0, 0, 7, -2), UNKNOWN);
        due("26 log(0, 0, 0, 7, 5)", x.log(0, 0, 0, 7, 5), 5);
        x.put(0, 3, 10);
        due("26 a STRAIN of 10", x.log(0, 0, 0, 7, 6), OUTSIDE);
        x.put(0, 3, -10);
        due("26 a STRAIN of -10", x.log(0, 0, 0, 7, -1), OUTSIDE);
        due("26 a STRAIN that is not taken", x.log(0, 0, 4, 5, -1), 0);
        x.put(0, 3, 256 - 9);
        due("26 a STRAIN cut to a byte", x.log(0, 0, 2, 2, -1), 9);
    }

    private static void sheets() {
        SawLine x = new SawLine();
        due("27 sheet(4, 3, -1)", x.sheet(4, 3, -1), UNKNOWN);
        due("27 sheet(-1, 0, 0)", x.sheet(-1, 0, 0), UNKNOWN);
        due("27 sheet(0, 3, -1)", x.sheet(0, 3, -1), OUTSIDE);
        due("27 sheet(0, -1, 0)", x.sheet(0, -1, 0), OUTSIDE);
        due("27 sheet(0, 0, 81)", x.sheet(0, 0, 81), OUTSIDE);
        due("27 sheet(0, 0, -1)", x.sheet(0, 0, -1), SIZE);
        due("27 fault()", x.fault(), 4);
        due("28 nothing yet", x.lose(0), 0);
        due("27 sheet(0, 0, 80)", x.sheet(0, 0, 80), 1);
        due("27 fault()", x.fault(), 0);
        due("29 put(0, 79, 5)", x.put(0, 79, 5), 1);
        due("29 put(0, 80, 5)", x.put(0, 80, 5), INDEX);
        due("27 sheet(0, 0, 80) anew", x.sheet(0, 0, 80), 1);
        due("30 0 at first", x.cell(0, 79, 0), 0);
        x.put(0, 79, 5);
        due("27 sheet(0, 2, -5)", x.sheet(0, 2, -5), SIZE);
        due("30 a FAULT changes nothing", x.cell(0, 79, 0), 5);
        due("27 sheet(0, 1, 0)", x.sheet(0, 1, 0), 1);
        due("30 no cell", x.cell(0, 0, 1), LOST);
        due("30 fault()", x.fault(), 3);
        due("28 lose(4)", x.lose(4), UNKNOWN);
        due("28 lose(-1)", x.lose(-1), UNKNOWN);
        due("36 lose() names no FAULT", x.fault(), 3);
        due("28 lose(0)", x.lose(0), 1);
        due("28 lose(0)", x.lose(0), 0);
        due("29 put(0, 0, 0)", x.put(0, 0, 0), NULL);
        due("29 fault()", x.fault(), 1);
    }

    private static void putAndCell() {
        SawLine x = new SawLine();
        due("29 put(4, 0, 0)", x.put(4, 0, 0), UNKNOWN);
        due("29 put(1, -1, 0) of nothing", x.put(1, -1, 0), NULL);
        int[] values = {0, 127, 128, -128, -129, 255, 256, 32767, 32768, -32769, 65535, 65536, MAX, MIN};
        for (int lane = 0; lane < 3; lane++) {
            x.sheet(lane, lane, 1);
            for (int v : values) {
                long want = lane == 0 ? (byte) v : lane == 1 ? (short) v : v;
                due("29 put of " + v, x.put(lane, 0, v), 1);
                due("30 cell in lane " + lane + " of " + v, x.cell(lane, 0, lane), want);
            }
            due("29 put beyond", x.put(lane, 1, 0), INDEX);
            due("29 put ahead", x.put(lane, -1, 0), INDEX);
            due("29 fault()", x.fault(), 3);
        }
        due("30 cell(4, -1, 3)", x.cell(4, -1, 3), LOST);
        due("30 fault()", x.fault(), 0);
        due("30 cell(3, -1, 0) of nothing", x.cell(3, -1, 0), LOST);
        due("30 fault()", x.fault(), 1);
        due("30 cell(0, -1, 3)", x.cell(0, -1, 3), LOST);
        due("30 fault()", x.fault(), 0);
        due("30 cell(0, -1, 1)", x.cell(0, -1, 1), LOST);
        due("30 fault()", x.fault(), 2);
        due("30 cell(0, MIN, 0)", x.cell(0, MIN, 0), LOST);
        due("30 fault()", x.fault(), 3);
        due("30 cell(0, 0, 0)", x.cell(0, 0, 0), 0);
        due("30 fault()", x.fault(), 0);
    }

    private static void copy() {
        SawLine x = new SawLine();
        due("31 copy(4, 0, 0, 0, 0)", x.copy(4, 0, 0, 0, 0), UNKNOWN);
        due("31 copy(0, 0, -1, 0, 0)", x.copy(0, 0, -1, 0, 0), UNKNOWN);
        due("31 copy of nothing", x.copy(0, -1, 1, -1, -1), NULL);
        x.sheet(0, 0, 5);
        due("31 copy to nothing", x.copy(0, -1, 1, -1, -1), NULL);
        due("31 copy from nothing", x.copy(1, -1, 0, -1, -1), NULL);
        x.sheet(1, 1, 5);
        due("31 unlike LANES", x.copy(0, -1, 1, -1, -1), CAST);
        due("31 fault()", x.fault(), 2);
        x.sheet(1, 0, 3);
        int[][] wrong = {{-1, 0, 0}, {0, -1, 0}, {0, 0, -1}, {0, 0, 4}, {3, 0, 3}, {6, 0, 0}, {0, 4, 0},
            {1, 0, MAX}, {MAX, 0, 1}, {0, MAX, 1}, {0, 0, MIN}};
        for (int[] w : wrong) {
            due("31 copy from " + w[0] + " to " + w[1] + " of " + w[2], x.copy(0, w[0], 1, w[1], w[2]), INDEX);
            due("31 fault()", x.fault(), 3);
        }
        for (int i = 0; i < 5; i++) {
            x.put(0, i, i + 1);
        }
        due("31 copy of none at the ends", x.copy(0, 5, 1, 3, 0), 0);
        due("31 copy(0, 1, 1, 0, 3)", x.copy(0, 1, 1, 0, 3), 3);
        cells("31", x, 1, 2, 3, 4);
        due("31 copy to the right", x.copy(0, 0, 0, 1, 4), 4);
        cells("31", x, 0, 1, 1, 2, 3, 4);
        due("31 copy to the left", x.copy(0, 2, 0, 0, 3), 3);
        cells("31", x, 0, 2, 3, 4, 3, 4);
    }

    private static void cells(String promise, SawLine x, int k, int... want) {
        for (int i = 0; i < want.length; i++) {
            due(promise + " cell(" + k + ", " + i + ", 0)", x.cell(k, i, 0), want[i]);
        }
    }

    private static void telling() {
        SawLine x = new SawLine();
        due("32 tell(0) without a SAW", x.tell(0), UNKNOWN);
        due("33 joint(0) without a SAW", x.joint(0), UNKNOWN);
        due("35 trace()", x.trace(), 0);
        saw(x, "c117;l118;r119h");
        int trail = 0;
        int[][] bodies = {{1}, {2, 1}, {3, 2, 1, 1}};
        int[] told = {7, 108, 118};
        int[] joints = {0, 1, 70};
        for (int again = 0; again < 5; again++) {
            for (int k = 0; k < 3; k++) {
                due("32 tell(" + k + ")", x.tell(k), told[k]);
                for (int body : bodies[k]) {
                    trail = 31 * trail + body;
                }
                due("35 trace()", x.trace(), trail);
                due("33 joint(" + k + ")", x.joint(k), joints[k]);
                trail = 31 * trail + (k == 2 ? 5 : 4);
                due("35 trace()", x.trace(), trail);
            }
        }
        due("32 tell(3)", x.tell(3), UNKNOWN);
        due("33 joint(-1)", x.joint(-1), UNKNOWN);
        due("35 trace() of refusals", x.trace(), trail);
        x.set(0, 2, 0);
        due("32 tell(0) as it is", x.tell(0), 0);
        saw(x, "c111");
        due("35 trace() of a new SAW", x.trace(), 31 * trail + 1);
    }

    private static void as() {
        SawLine x = new SawLine();
        due("34 as(0, 3) without a SAW", x.as(0, 3), UNKNOWN);
        saw(x, "c111;l111;r111h");
        for (int k = 0; k < 3; k++) {
            for (int kind = 0; kind < 3; kind++) {
                due("34 as(" + k + ", " + kind + ")", x.as(k, kind), kind <= k ? 1 : CAST);
                due("36 fault()", x.fault(), kind <= k ? 0 : 2);
            }
        }
        due("34 as(0, 3)", x.as(0, 3), OUTSIDE);
        due("34 as(0, -1)", x.as(0, -1), OUTSIDE);
        due("34 as(3, 3)", x.as(3, 3), UNKNOWN);
    }

    private static void fault() {
        SawLine x = with("c111", "140");
        int[] codes = {NULL, CAST, INDEX, SIZE};
        x.sheet(0, 0, 1);
        for (int f = 1; f <= 4; f++) {
            raise(x, f, codes[f - 1]);
            due("36 calls that name none leave it", x.many(0) + x.off() + x.tell(0) + x.lose(1), 2);
            due("36 fault()", x.fault(), f);
            due("36 fault() again", x.fault(), f);
            due("36 one that is refused", x.saw(9, 0, 0, 0), UNKNOWN);
            due("36 fault()", x.fault(), 0);
        }
        String[] names = {"saw", "board", "log", "sheet", "put", "cell", "copy", "as"};
        for (int c = 0; c < names.length; c++) {
            raise(x, 3, INDEX);
            refuse(x, c);
            due("36 fault() behind a refused " + names[c], x.fault(), 0);
        }
        raise(x, 3, INDEX);
        due("36 a text with a fault comes to none", x.saw(0, 0, 0, 1), -100);
        due("36 fault()", x.fault(), 0);
        raise(x, 3, INDEX);
        due("36 put() comes to none", x.put(0, 0, 0), 1);
        due("36 fault()", x.fault(), 0);
    }

    private static void raise(SawLine x, int f, int want) {
        long got;
        switch (f) {
            case 1: got = x.put(2, 0, 0); break;
            case 2: got = x.as(0, 2); break;
            case 3: got = x.put(0, 1, 0); break;
            default: got = x.sheet(0, 0, -1); break;
        }
        due("36 a call with FAULT " + f, got, want);
        due("36 fault()", x.fault(), f);
    }

    private static void refuse(SawLine x, int c) {
        switch (c) {
            case 0: x.saw(4, 0, 0, 0); break;
            case 1: x.board(4, 0, 0, 0); break;
            case 2: x.log(4, 0, 0, 0, 0); break;
            case 3: x.sheet(4, 0, 0); break;
            case 4: x.put(4, 0, 0); break;
            case 5: x.cell(4, 0, 0); break;
            case 6: x.copy(4, 0, 0, 0, 0); break;
            default: x.as(9, 0); break;
        }
    }

    private static void many() {
        SawLine x = with("c111;r211", "140140149");
        x.flaw(0, 0, 0);
        x.reading(0, 0);
        x.reading(0, 0);
        int[] want = {2, 3, 1, 2, 2};
        for (int what = 0; what < 5; what++) {
            due("37 many(" + what + ")", x.many(what), want[what]);
        }
        due("37 many(5)", x.many(5), OUTSIDE);
        due("37 many(-1)", x.many(-1), OUTSIDE);
        due("UNKNOWN", SawLine.UNKNOWN, UNKNOWN);
        due("OUTSIDE", SawLine.OUTSIDE, OUTSIDE);
        due("STATE", SawLine.STATE, STATE);
        due("FULL", SawLine.FULL, FULL);
        due("NONE", SawLine.NONE, NONE);
        due("LOST", SawLine.LOST, LOST);
    }
}
