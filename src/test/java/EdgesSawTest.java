/** Part 1 of the terms and promises 1 to 5, sentence by sentence at their bounds. */
public final class EdgesSawTest extends Bench {
    private static final Due DUE = new Due("EdgesSawTest");
    // Codes around those that a text may have, and such as would be one if they were cut to a lane.
    private static final int[] FAR_CODES = {MIN, MAX, -108, 108 + 256, 48 + 256, 104 + 256, 59 + 256,
        108 + 65536, 48 + 65536, 104 + 65536, 59 + 65536, 108 - 256, 48 - 256};
    private static final String EIGHT = "l111;c222;r333;l444;c555;r666;l777;r999";
    private static final String EIGHT_HOOKED = "l111h;r222h;r333h;l444h;l555h;r666h;l777h;r999h";

    private EdgesSawTest() {
    }

    public static void main(String[] args) {
        newObject();
        howManyTeeth();
        letters();
        digits();
        hooks();
        firstFault();
        endsTooSoon();
        takes();
        pushes();
        kerf();
        sawCells();
        sawFaults();
        sawForgets();
        ofTooth();
        set();
        ofSaw();
        DUE.end();
    }

    private static void due(String call, long got, long want) {
        DUE.is(call, got, want);
    }

    private static void says(String words) {
        DUE.says(words);
    }

    private static void newObject() {
        says("No SAW (no TEETH), no BOARD (no LINES), SHEETS have nothing.");
        SawLine x = new SawLine();
        due("many(0)", x.many(0), 0);
        due("many(1)", x.many(1), 0);
        due("ofTooth(0, 0)", x.ofTooth(0, 0), UNKNOWN);
        due("ofLine(0, 0)", x.ofLine(0, 0), UNKNOWN);
        due("ofSaw(0)", x.ofSaw(0), STATE);
        due("off()", x.off(), STATE);
        for (int k = 0; k < 4; k++) {
            due("lose of " + k, x.lose(k), 0);
            due("put into " + k, x.put(k, 0, 0), NULL);
        }
    }

    private static void textDue(String text, int want) {
        SawLine x = new SawLine();
        due("saw of '" + text + "'", saw(x, text), want);
        due("TEETH of '" + text + "'", x.many(0), Math.max(0, want));
    }

    private static void howManyTeeth() {
        says("1 to 8 TEETH, numbered from 0 on, with ; between");
        textDue("", -100);
        textDue("c000", 1);
        textDue(EIGHT, 8);
        textDue(EIGHT_HOOKED, 8);
        textDue(EIGHT + ";c111", -139);
        textDue(EIGHT_HOOKED + ";l111h", -147);
        textDue("c111c111", -104);
        textDue("l111hl111", -105);
        textDue("c111;;c111", -105);
        textDue(";c111", -100);
        textDue("c111;", -105);
        SawLine x = withSaw("c001;c002;c003;c004;c005;c006;c007;c008");
        for (int k = 0; k < 8; k++) {
            due("EDGE of TOOTH " + k, x.ofTooth(k, 4), k + 1);
        }
        due("a TOOTH 8", x.ofTooth(8, 4), UNKNOWN);
        due("a TOOTH -1", x.ofTooth(-1, 4), UNKNOWN);
    }

    /** What saw() answers to a text of which one code is put in by its number. */
    private static int sawWithCode(SawLine x, String text, int at, int code) {
        write(x, 0, 2, text);
        x.put(0, at, code);
        return x.saw(0, 2, 0, text.length());
    }

    private static void letters() {
        says("a letter l, c or r (it is bent to the left, not, to the right)");
        for (int code = -2; code <= 130; code++) {
            boolean goesOn = code == 108 || code == 99 || code == 114;
            due("a text of the code " + code, sawWithCode(new SawLine(), "x", 0, code), goesOn ? -101 : -100);
            due("a second TOOTH by the code " + code, sawWithCode(new SawLine(), "c111;x111", 5, code),
                    goesOn ? 2 : -105);
        }
        for (int code : FAR_CODES) {
            due("a text of the code " + code, sawWithCode(new SawLine(), "x", 0, code), -100);
        }
        SawLine x = withSaw("l111;c111;r111");
        due("the side of l", x.ofTooth(0, 1), -1);
        due("the side of c", x.ofTooth(1, 1), 0);
        due("the side of r", x.ofTooth(2, 1), 1);
    }

    private static void digits() {
        says("digits BEND (0 .. 9), HEIGHT (0 .. 9), EDGE (0 .. 9)");
        for (int at = 1; at <= 3; at++) {
            for (int code = -2; code <= 130; code++) {
                SawLine x = new SawLine();
                boolean goesOn = code >= 48 && code <= 57;
                due("the code " + code + " at " + at, sawWithCode(x, "l555", at, code), goesOn ? 1 : -100 - at);
                due("what came of it", x.ofTooth(0, at + 1), goesOn ? code - 48 : UNKNOWN);
            }
            for (int code : FAR_CODES) {
                due("the code " + code + " at " + at, sawWithCode(new SawLine(), "l555", at, code), -100 - at);
            }
        }
        textDue("l1234", -104);
        textDue("c12;c123", -103);
    }

    private static void hooks() {
        says("then perhaps h (HOOKED; of l, r alone)");
        for (String letter : new String[] {"l", "c", "r"}) {
            for (int code = -2; code <= 130; code++) {
                SawLine x = new SawLine();
                boolean hooked = code == 104 && !letter.equals("c");
                int want = hooked ? 1 : code == 59 ? -105 : -104;
                due("the code " + code + " behind " + letter, sawWithCode(x, letter + "555x", 4, code), want);
                due("the kind", x.ofTooth(0, 0), hooked ? 2 : UNKNOWN);
            }
            for (int code : FAR_CODES) {
                due("the code " + code, sawWithCode(new SawLine(), letter + "555x", 4, code), -104);
            }
        }
        for (int code = -2; code <= 130; code++) {
            due("the code " + code + " behind h", sawWithCode(new SawLine(), "r555hx", 5, code),
                    code == 59 ? -106 : -105);
        }
        textDue("c111;c111h", -109);
        textDue("l111h;c111", 2);
        says("Kinds: 0 TOOTH (c); 1 BENT, a TOOTH; 2 HOOKED, a BENT.");
        SawLine x = withSaw("c111;l111;r111;l111h;r111h");
        int[] kinds = {0, 1, 1, 2, 2};
        for (int k = 0; k < kinds.length; k++) {
            due("the kind of " + k, x.ofTooth(k, 0), kinds[k]);
        }
    }

    private static void firstFault() {
        says("FIRST FAULT: the place (from 0 on) of the first code with which no TEXT goes on (the ; of a ninth TOOTH)");
        textDue("x", -100);
        textDue("lx", -101);
        textDue("xx", -100);
        textDue("l3xx", -102);
        textDue(EIGHT + ";", -139);
        textDue(EIGHT + ";x", -139);
        textDue(EIGHT + "x;", -139);
        textDue(EIGHT + "h;", -140);
        textDue(EIGHT + "hh", -140);
        textDue(EIGHT_HOOKED + ";", -147);
        textDue("c111;c111;c111;c111;c111;c111;c111;", -135);
        says("-100 less the FIRST FAULT");
        SawLine x = new SawLine();
        writeCodes(x, 0, 0, 'x', 'x', 'l', '1', 'x');
        due("a place is counted from the first of the cells that are taken", x.saw(0, 0, 2, 3), -102);
        due("fault() of a text", x.fault(), 0);
        due("the last cell alone", x.saw(0, 0, 4, 1), -100);
    }

    private static void endsTooSoon() {
        says("how many codes there are, if it just ends too soon");
        String text = "l345h;c678;r901";
        int[] teeth = {0, 0, 0, 0, 1, 1, 0, 0, 0, 0, 2, 0, 0, 0, 0, 3};
        for (int n = 0; n <= text.length(); n++) {
            textDue(text.substring(0, n), teeth[n] > 0 ? teeth[n] : -100 - n);
        }
        textDue(EIGHT.substring(0, 38), -138);
        textDue(EIGHT.substring(0, 35), -135);
    }

    private static void takes() {
        says("A TOOTH TAKES HEIGHT times EDGE; a HOOKED one 2 more, if that is above 0.");
        String[] teeth = {"c900", "c909", "c990", "c911", "c999", "l909h", "l990h", "l900h", "l911h", "r011h",
            "r999h", "r999"};
        int[] takes = {0, 0, 0, 1, 81, 0, 0, 0, 3, 3, 83, 81};
        for (int k = 0; k < teeth.length; k++) {
            due("what " + teeth[k] + " TAKES", withSaw(teeth[k]).ofTooth(0, 5), takes[k]);
        }
    }

    private static void pushes() {
        says("It PUSHES nothing; a BENT one what it TAKES times BEND, to its side (left below 0).");
        String[] teeth = {"c999", "l099", "r099", "l909h", "l111", "r111", "l111h", "r911h", "l999h", "r999h"};
        int[] pushes = {0, 0, 0, 0, -1, 1, -3, 27, -747, 747};
        for (int k = 0; k < teeth.length; k++) {
            due("what " + teeth[k] + " PUSHES", withSaw(teeth[k]).ofTooth(0, 6), pushes[k]);
        }
        says("PUSH of the SAW: all together.");
        due("PUSH of eight", withSaw("r999h;r999h;r999h;r999h;r999h;r999h;r999h;r999h").ofSaw(0), 8 * 747);
        due("PUSH of eight", withSaw("l999h;l999h;l999h;l999h;l999h;l999h;l999h;l999h").ofSaw(0), -8 * 747);
        due("PUSH of both sides", withSaw("l999h;r999h").ofSaw(0), 0);
        due("PUSH of the first and the last", withSaw("l111;c999;r333").ofSaw(0), -1 + 27);
    }

    private static void kerf() {
        says("KERF: 1, and the greatest BEND to the left, to the right, of BENT ones that TAKE something.");
        String[] saws = {"c999", "l011", "l111", "r911", "l911;r911", "l901;r910", "l911;r901", "l311;l511;l411",
            "r311h;r511h;r411h", "l311;r211;c999", "l201h;r210h", "l211h;r111"};
        int[] kerfs = {1, 1, 2, 10, 19, 1, 10, 6, 6, 6, 1, 4};
        for (int k = 0; k < saws.length; k++) {
            due("KERF of " + saws[k], withSaw(saws[k]).ofSaw(1), kerfs[k]);
        }
    }

    private static void sawCells() {
        says("A SAW by a TEXT of n cells of a SHEET from i on, taken as a row of a LANE: how many TEETH");
        for (int lane = 0; lane < 3; lane++) {
            for (int k = 0; k < 4; k++) {
                SawLine x = new SawLine();
                write(x, k, lane, "c111;l345;c222");
                due("all of SHEET " + k + ", LANE " + lane, x.saw(k, lane, 0, 14), 3);
                due("the midst", x.saw(k, lane, 5, 4), 1);
                due("BEND of it", x.ofTooth(0, 2), 3);
                due("up to the last cell", x.saw(k, lane, 5, 9), 2);
                due("the first ones", x.saw(k, lane, 0, 4), 1);
                due("BEND of it", x.ofTooth(0, 2), 1);
            }
        }
        SawLine y = new SawLine();
        y.sheet(0, 0, 80);
        for (int i = 0; i < 39; i++) {
            y.put(0, 41 + i, EIGHT.charAt(i));
        }
        due("up to the 80th cell", y.saw(0, 0, 41, 39), 8);
        due("from the 80th cell on", y.saw(0, 0, 79, 1), -100);
    }

    private static void sawFaults() {
        says("UNKNOWN; OUTSIDE: lane; CAST (nothing is no CAST); NULL; SIZE: n below 0; INDEX; -100 less it.");
        SawLine x = new SawLine();
        write(x, 0, 0, "l345");
        for (int k : new int[] {-1, 4, MIN, MAX}) {
            due("SHEET " + k, x.saw(k, 0, 0, 4), UNKNOWN);
        }
        for (int lane : new int[] {-1, 3, MIN, MAX}) {
            due("LANE " + lane, x.saw(0, lane, 0, 4), OUTSIDE);
        }
        due("another LANE", x.saw(0, 1, 0, 4), CAST);
        due("another LANE", x.saw(0, 2, 0, 4), CAST);
        for (int lane = 0; lane < 3; lane++) {
            due("nothing, LANE " + lane, x.saw(1, lane, 0, 4), NULL);
        }
        due("n -1", x.saw(0, 0, 0, -1), SIZE);
        due("n MIN", x.saw(0, 0, 4, MIN), SIZE);
        due("n 0", x.saw(0, 0, 0, 0), -100);
        due("n 5", x.saw(0, 0, 0, 5), INDEX);
        due("n MAX", x.saw(0, 0, 1, MAX), INDEX);
        due("i -1", x.saw(0, 0, -1, 4), INDEX);
        due("i 1", x.saw(0, 0, 1, 4), INDEX);
        due("i MAX", x.saw(0, 0, MAX, 4), INDEX);
        due("n 4", x.saw(0, 0, 0, 4), 1);
        says("3 INDEX (of cells from i on also where i is not 0 .. how many there are, if none of them is taken, too)");
        due("none from -1 on", x.saw(0, 0, -1, 0), INDEX);
        due("none from 0 on", x.saw(0, 0, 0, 0), -100);
        due("none from 4 on", x.saw(0, 0, 4, 0), -100);
        due("none from 5 on", x.saw(0, 0, 5, 0), INDEX);
        due("none from MIN on", x.saw(0, 0, MIN, 0), INDEX);
        due("none from MAX on", x.saw(0, 0, MAX, 0), INDEX);
        x.sheet(2, 2, 0);
        due("none of no cells from 0 on", x.saw(2, 2, 0, 0), -100);
        due("none of no cells from 1 on", x.saw(2, 2, 1, 0), INDEX);
        due("one of no cells", x.saw(2, 2, 0, 1), INDEX);
    }

    private static void sawForgets() {
        says("(no FLAWS, no READINGS then; HAND, FENCE stay)");
        SawLine x = with("l111;r222", "140140");
        x.hand(-9, 8, 5);
        x.fence(99);
        x.flaw(0, 0, 5);
        x.flaw(1, 1, 6);
        x.reading(1, 1);
        due("the same text again", saw(x, "l111;r222"), 2);
        due("FLAWS", x.many(2), 0);
        due("ofFlaw(0, 0)", x.ofFlaw(0, 0), UNKNOWN);
        due("each(0)", x.each(0), UNKNOWN);
        due("READINGS", x.many(3), 0);
        due("back(1)", x.back(1), OUTSIDE);
        due("LEAN", x.ofHand(0), -9);
        due("STEERS", x.ofHand(1), 8);
        due("LATE", x.ofHand(2), 5);
        due("FENCE", x.fence(0), 99);
        due("LINES", x.many(1), 2);
        due("the first FLAW then", x.flaw(1, 0, 0), 0);
        due("the first READING then", x.reading(0, 0), 0);
        fewerTeeth();
    }

    /** Teeth of a longer saw are gone: they neither push nor leave anything. */
    private static void fewerTeeth() {
        SawLine x = with("c111;r999h;l555;r333;l444h;r111;l222;r999", "140");
        due("a SAW of fewer TEETH", saw(x, "c111"), 1);
        due("TOOTH 1 then", x.ofTooth(1, 0), UNKNOWN);
        due("PUSH then", x.ofSaw(0), 0);
        due("KERF then", x.ofSaw(1), 1);
        due("TAKEN then", x.ofSaw(2), 1);
        due("MARKS then", x.marks(0), 1);
        due("TEETH at PLACE 9 then", x.which(0, 9), 0);
        due("a faulty text of more", saw(x, "r999;r999;x"), -110);
        due("PUSH then", x.ofSaw(0), 0);
        due("TAKEN then", x.ofSaw(2), 1);
    }

    private static void ofTooth() {
        says("Of a TOOTH: 0 kind, 1 its side (-1, 0, 1), 2 BEND, 3 HEIGHT, 4 EDGE, 5 what it TAKES, 6 what it PUSHES.");
        SawLine x = withSaw(EIGHT_HOOKED);
        int[] last = {2, 1, 9, 9, 9, 83, 747};
        int[] first = {2, -1, 1, 1, 1, 3, -3};
        for (int what = 0; what < 7; what++) {
            due("ofTooth(7, " + what + ")", x.ofTooth(7, what), last[what]);
            due("ofTooth(0, " + what + ")", x.ofTooth(0, what), first[what]);
        }
        for (int k : new int[] {-1, 8, MIN, MAX}) {
            due("TOOTH " + k, x.ofTooth(k, 0), UNKNOWN);
            due("TOOTH " + k + " and what 7", x.ofTooth(k, 7), UNKNOWN);
        }
        for (int what : new int[] {-1, 7, MIN, MAX}) {
            due("what " + what, x.ofTooth(7, what), OUTSIDE);
        }
        due("TOOTH 1 of one", withSaw("l111").ofTooth(1, 2), UNKNOWN);
        due("TOOTH 0 of none", new SawLine().ofTooth(0, 7), UNKNOWN);
    }

    private static void set() {
        says("BEND (what 0), HEIGHT (1), EDGE (2) of a TOOTH becomes v: what it was.");
        SawLine x = withSaw("l123;c456;r789h");
        for (int k = 0; k < 3; k++) {
            for (int what = 0; what < 3; what++) {
                due("v 0", x.set(k, what, 0), 3 * k + what + 1);
                due("0 then", x.ofTooth(k, 2 + what), 0);
                due("v 9", x.set(k, what, 9), 0);
                due("9 then", x.ofTooth(k, 2 + what), 9);
                due("v -1", x.set(k, what, -1), OUTSIDE);
                due("v 10", x.set(k, what, 10), OUTSIDE);
                due("v MIN", x.set(k, what, MIN), OUTSIDE);
                due("v MAX", x.set(k, what, MAX), OUTSIDE);
                due("9 still", x.ofTooth(k, 2 + what), 9);
            }
            due("what -1", x.set(k, -1, 5), OUTSIDE);
            due("what 3", x.set(k, 3, 5), OUTSIDE);
            due("the kind stays", x.ofTooth(k, 0), k == 1 ? 0 : k == 0 ? 1 : 2);
            due("the side stays", x.ofTooth(k, 1), k - 1);
        }
        due("TOOTH -1, what 3, v 10", x.set(-1, 3, 10), UNKNOWN);
        due("TOOTH 3, what 3, v 10", x.set(3, 3, 10), UNKNOWN);
        due("no TOOTH", new SawLine().set(0, 0, 0), UNKNOWN);
        due("PUSH then", x.ofSaw(0), -729 + 747);
        due("KERF then", x.ofSaw(1), 19);
        x.set(0, 1, 0);
        due("KERF of the right alone", x.ofSaw(1), 10);
        due("all TAKEN", x.ofSaw(2), 81 + 83);
    }

    private static void ofSaw() {
        says("PUSH (what 0), KERF (1), all that is TAKEN (2).");
        SawLine x = withSaw("r999h;r999h;r999h;r999h;r999h;r999h;r999h;l999h");
        due("ofSaw(0)", x.ofSaw(0), 6 * 747);
        due("ofSaw(1)", x.ofSaw(1), 19);
        due("ofSaw(2)", x.ofSaw(2), 8 * 83);
        due("TAKEN of nothing", withSaw("l909h;c990").ofSaw(2), 0);
        says("OUTSIDE; STATE: there is no SAW.");
        SawLine none = withBoard("140");
        for (int what : new int[] {-1, 3, MIN, MAX}) {
            due("ofSaw(" + what + ")", x.ofSaw(what), OUTSIDE);
            due("ofSaw(" + what + ") without a SAW", none.ofSaw(what), OUTSIDE);
        }
        for (int what = 0; what < 3; what++) {
            due("ofSaw(" + what + ") without a SAW", none.ofSaw(what), STATE);
        }
    }
}
