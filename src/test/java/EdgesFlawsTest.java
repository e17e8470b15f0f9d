/** Parts 4 and 5 of the terms and promises 18 to 25, sentence by sentence at their bounds. */
public final class EdgesFlawsTest extends Bench {
    private static final Due DUE = new Due("EdgesFlawsTest");
    private static final String IDLE = "c000";

    private EdgesFlawsTest() {
    }

    public static void main(String[] args) {
        howManyFlaws();
        keptByOtherCalls();
        flawRefusals();
        ofFlaw();
        howManyReadings();
        back();
        setsOfFlaws();
        oneAfterAnother();
        linesNotCut();
        fewest();
        likelyRefusals();
        each();
        file();
        stoneAndBend();
        breakOff();
        actRefusals();
        mendBounds();
        mendPinched();
        mendCheapest();
        mendShortestAndFirst();
        mendNumbers();
        mendRefusals();
        DUE.end();
    }

    private static void due(String call, long got, long want) {
        DUE.is(call, got, want);
    }

    private static void says(String words) {
        DUE.says(words);
    }

    private static void howManyFlaws() {
        says("FLAWS, 6 ever, numbered as they come: of a TOOTH BEND (what 0), HEIGHT (1), EDGE (2) would be v.");
        SawLine x = withSaw("l345;c111;r222h");
        due("none at first", x.many(2), 0);
        for (int q = 0; q < 6; q++) {
            due("the FLAW " + q, x.flaw(q % 3, q % 3, q), q);
            due("how many", x.many(2), q + 1);
        }
        due("a seventh", x.flaw(0, 0, 0), FULL);
        due("a seventh, the same as the first", x.flaw(0, 0, 0), FULL);
        due("how many", x.many(2), 6);
        due("the last one stays", x.ofFlaw(5, 2), 5);
        due("a seventh is none", x.ofFlaw(6, 0), UNKNOWN);
        due("BEND is as it was", x.ofTooth(0, 2), 3);
        due("FLAWS alike are two", flawsAlike(), 2);
    }

    private static int flawsAlike() {
        SawLine x = withSaw(IDLE);
        x.flaw(0, 0, 0);
        x.flaw(0, 0, 0);
        return x.many(2);
    }

    private static void keptByOtherCalls() {
        says("(no FLAWS, no READINGS then");
        SawLine x = with("l345;c111", "140140");
        x.flaw(0, 0, 0);
        x.reading(0, 0);
        x.set(0, 0, 4);
        x.act(0, 1);
        x.hand(1, 2, 3);
        x.fence(5);
        x.mend(3, 0);
        x.likely(1);
        x.tell(0);
        x.sheet(3, 0, 5);
        x.lose(3);
        due("FLAWS behind other calls", x.many(2), 1);
        due("READINGS behind other calls", x.many(3), 1);
        due("back(0) behind other calls", x.back(0), 1);
        board(x, "140140");
        due("FLAWS behind a board", x.many(2), 1);
        due("READINGS behind a board", x.many(3), 0);
        saw(x, "l345;c111");
        due("FLAWS behind a saw", x.many(2), 0);
    }

    private static void flawRefusals() {
        says("A FLAW: its number. UNKNOWN: TOOTH; OUTSIDE: what, v; FULL.");
        SawLine x = withSaw("l345;c111");
        for (int k : new int[] {-1, 2, MIN, MAX}) {
            due("TOOTH " + k, x.flaw(k, 0, 0), UNKNOWN);
            due("TOOTH " + k + ", what 3, v 10", x.flaw(k, 3, 10), UNKNOWN);
        }
        for (int bad : new int[] {-1, 3, MIN, MAX}) {
            due("what " + bad, x.flaw(0, bad, 0), OUTSIDE);
        }
        for (int bad : new int[] {-1, 10, MIN, MAX}) {
            due("v " + bad, x.flaw(0, 0, bad), OUTSIDE);
        }
        due("no FLAW came of it", x.many(2), 0);
        due("the first TOOTH, BEND, 0", x.flaw(0, 0, 0), 0);
        due("the last TOOTH, EDGE, 9", x.flaw(1, 2, 9), 1);
        for (int q = 2; q < 6; q++) {
            x.flaw(0, 1, q);
        }
        due("full and TOOTH 2", x.flaw(2, 0, 0), UNKNOWN);
        due("full and what 3", x.flaw(0, 3, 0), OUTSIDE);
        due("full and v 10", x.flaw(0, 0, 10), OUTSIDE);
        due("full", x.flaw(0, 0, 9), FULL);
        due("no TOOTH at all", new SawLine().flaw(0, 3, 10), UNKNOWN);
    }

    private static void ofFlaw() {
        says("Of a FLAW: 0 TOOTH, 1 what, 2 v. UNKNOWN; OUTSIDE.");
        SawLine x = withSaw("l111;c111;r111;l111;c111;r111;l111;c111");
        x.flaw(0, 0, 0);
        x.flaw(7, 2, 9);
        int[][] want = {{0, 0, 0}, {7, 2, 9}};
        for (int q = 0; q < 2; q++) {
            for (int what = 0; what < 3; what++) {
                due("ofFlaw(" + q + ", " + what + ")", x.ofFlaw(q, what), want[q][what]);
            }
            for (int what : new int[] {-1, 3, MIN, MAX}) {
                due("what " + what, x.ofFlaw(q, what), OUTSIDE);
            }
        }
        for (int q : new int[] {-1, 2, 6, MIN, MAX}) {
            due("FLAW " + q, x.ofFlaw(q, 0), UNKNOWN);
            due("FLAW " + q + ", what 3", x.ofFlaw(q, 3), UNKNOWN);
        }
        due("none at all", withSaw(IDLE).ofFlaw(0, 0), UNKNOWN);
    }

    private static void howManyReadings() {
        says("READINGS, 8 at most: PLACE behind a LINE.");
        SawLine x = withBoard("140140");
        due("none at first", x.many(3), 0);
        for (int r = 0; r < 8; r++) {
            due("the READING " + r, x.reading(r % 2, r), r);
            due("how many", x.many(3), r + 1);
        }
        due("a ninth", x.reading(0, 0), FULL);
        due("how many", x.many(3), 8);
        says("A READING: its number. UNKNOWN: LINE; FULL.");
        for (int t : new int[] {-1, 2, MIN, MAX}) {
            due("full and LINE " + t, x.reading(t, 0), UNKNOWN);
        }
        SawLine y = with(IDLE, "140140149");
        for (int t : new int[] {-1, 3, MIN, MAX}) {
            due("LINE " + t, y.reading(t, 0), UNKNOWN);
        }
        due("how many", y.many(3), 0);
        due("the least place", y.reading(0, MIN), 0);
        due("the greatest place", y.reading(0, MAX), 1);
        due("a LINE that is not cut", y.reading(2, 0), 2);
        due("the same once more", y.reading(2, 0), 3);
        due("no LINE at all", withSaw(IDLE).reading(0, 0), UNKNOWN);
    }

    private static void back() {
        says("The last k READINGS (0 .. as many as there are) are taken back: how many are left.");
        SawLine x = new SawLine();
        due("none of none", x.back(0), 0);
        due("one of none", x.back(1), OUTSIDE);
        x = with(IDLE, "150150");
        x.reading(0, 1);
        x.reading(1, 3);
        x.reading(0, 7);
        due("with all three", x.likely(0), 0);
        due("back(-1)", x.back(-1), OUTSIDE);
        due("back(4)", x.back(4), OUTSIDE);
        due("back(MIN)", x.back(MIN), OUTSIDE);
        due("back(MAX)", x.back(MAX), OUTSIDE);
        due("back(0)", x.back(0), 3);
        due("with all three", x.likely(0), 0);
        due("back(1): the last", x.back(1), 2);
        due("with the first two", x.likely(0), 1);
        due("the next one's number", x.reading(1, 4), 2);
        due("with it", x.likely(0), 0);
        due("back(3): all", x.back(3), 0);
        due("how many", x.many(3), 0);
        due("with none", x.likely(0), 1);
        for (int r = 0; r < 8; r++) {
            x.reading(0, 1);
        }
        due("a ninth", x.reading(0, 1), FULL);
        due("back(9) of eight", x.back(9), OUTSIDE);
        due("back(8) of eight", x.back(8), 0);
        due("the first one then", x.reading(0, 1), 0);
    }

    private static void setsOfFlaws() {
        says("LIKELY: the sets of 2 FLAWS at most that FIT: how many");
        int[] sets = {1, 2, 4, 7, 11, 16, 22};
        SawLine x = with("l345;c111", "140");
        for (int q = 0; q <= 6; q++) {
            due("of " + q + " FLAWS without a READING", x.likely(0), sets[q]);
            due("the first of the fewest: none of them", x.likely(1), 0);
            x.flaw(q % 2, q % 3, 9);
        }
        for (int q = 0; q < 6; q++) {
            due("each(" + q + ")", x.each(q), 6);
        }
        says("A set of FLAWS (perhaps none) FITS");
        SawLine y = with(IDLE, "150");
        y.reading(0, 1);
        due("without FLAWS, as it is", y.likely(0), 1);
        due("the set of none", y.likely(1), 0);
        y.reading(0, 2);
        due("without FLAWS, otherwise", y.likely(0), 0);
        due("no set", y.likely(1), NONE);
        says("all READINGS are so");
        SawLine z = with(IDLE, "150150150");
        z.reading(0, 1);
        z.reading(1, 3);
        z.reading(2, 6);
        due("three that are so", z.likely(0), 1);
        z.reading(1, 3);
        due("one twice", z.likely(0), 1);
        z.reading(1, 2);
        due("one that is not so", z.likely(0), 0);
        for (int place : new int[] {MIN, MAX, 257, -255, 65537, -65535, MIN + 1, -1}) {
            z.back(1);
            z.reading(0, place);
            due("the place " + place, z.likely(0), 0);
        }
    }

    private static void oneAfterAnother() {
        says("(one after another, on the SAW as it is)");
        // BEND 1 leads to PLACE 2, 2 to 4, 3 to 6: of 0 and 1 together 1 comes behind.
        SawLine x = with("r145", "140");
        x.flaw(0, 0, 2);
        x.flaw(0, 0, 3);
        x.reading(0, 6);
        due("PLACE 6: {1}, {0, 1}", x.likely(0), 2);
        due("the first of the fewest", x.likely(1), 2);
        due("each(0)", x.each(0), 1);
        due("each(1)", x.each(1), 2);
        x.back(1);
        x.reading(0, 4);
        due("PLACE 4: {0}", x.likely(0), 1);
        due("the first of the fewest", x.likely(1), 1);
        // HEIGHT 8 now: PLACE 4 as it is, 8 by BEND 2, 12 by 3.
        x.set(0, 1, 8);
        due("PLACE 4 with the SAW as it is now: {}", x.likely(0), 1);
        due("the first of the fewest", x.likely(1), 0);
        due("BEND is as it was", x.ofTooth(0, 2), 1);
    }

    private static void linesNotCut() {
        says("(a LINE that is not cut is not so)");
        // KERF is 1: pinched at LINE 1, unless a BEND is 2 at least.
        SawLine x = with("l011;r011", "140143140");
        x.flaw(0, 0, 2);
        x.flaw(1, 0, 1);
        x.reading(1, 0);
        due("one FLAW that opens it", x.likely(0), 2);
        due("the first of the fewest", x.likely(1), 1);
        x.reading(2, 0);
        due("a LINE behind it", x.likely(0), 2);
        x.back(2);
        x.reading(0, 0);
        due("a LINE ahead of it", x.likely(0), 4);
        due("the first of the fewest", x.likely(1), 0);
        due("no stroke at all", pinchedAtOnce(), 0);
    }

    private static int pinchedAtOnce() {
        SawLine x = with(IDLE, "149");
        x.reading(0, 0);
        return x.likely(0);
    }

    /** Six flaws on six teeth, each of which pushes by as many tens as told. */
    private static SawLine withPushes(int... tens) {
        SawLine x = with("r009;r009;r009;r009;r009;r009", "140");
        for (int k = 0; k < 6; k++) {
            x.set(k, 0, Math.abs(tens[k]));
            x.set(k, 2, 5);
            x.flaw(k, 1, tens[k] == 0 ? 0 : 2);
        }
        return x;
    }

    private static void fewestDue(SawLine x, int place, int sets, int first) {
        x.reading(0, place);
        due("PLACE " + place + ": how many", x.likely(0), sets);
        due("PLACE " + place + ": the first of the fewest", x.likely(1), first);
        x.back(1);
    }

    private static void fewest() {
        says("of those of the fewest FLAWS the one that is the least number as bits");
        // PLACE 3 by {5} alone, by {0, 1} too: the fewest, not the least number.
        fewestDue(withPushes(1, 2, 7, 7, 7, 3), 3, 2, 32);
        // PLACE 4 by {2} and by {4}.
        fewestDue(withPushes(1, 1, 4, 1, 4, 1), 4, 2, 4);
        // PLACE 5 by {1, 2}, 6, and by {0, 3}, 9.
        fewestDue(withPushes(1, 2, 3, 4, 9, 9), 5, 2, 6);
        // PLACE 9 by {3, 4}, 24, and by {0, 5}, 33.
        fewestDue(withPushes(1, 1, 1, 4, 5, 8), 9, 4, 24);
        // PLACE 0 by none, and by {1}, that pushes nothing.
        fewestDue(withPushes(1, 0, 2, 3, 4, 5), 0, 2, 0);
        // PLACE 6 by three of them alone.
        fewestDue(withPushes(1, 1, 1, 2, 9, 9), 6, 0, NONE);
        // All of the six one by one: the lowest.
        fewestDue(withPushes(3, 3, 3, 3, 3, 3), 3, 6, 1);
        // All fifteen pairs: {0, 1}.
        fewestDue(withPushes(3, 3, 3, 3, 3, 3), 6, 15, 3);
    }

    private static void likelyRefusals() {
        says("LIKELY: how many sets (what 0), the first of the fewest (1; NONE). OUTSIDE; STATE: there is no SAW, no BOARD.");
        SawLine[] lacking = {new SawLine(), withSaw(IDLE), withBoard("140")};
        SawLine x = with(IDLE, "140");
        due("likely(0)", x.likely(0), 1);
        due("likely(1)", x.likely(1), 0);
        for (int what : new int[] {-1, 2, MIN, MAX}) {
            due("likely(" + what + ")", x.likely(what), OUTSIDE);
            for (SawLine y : lacking) {
                due("likely(" + what + ") without all", y.likely(what), OUTSIDE);
            }
        }
        for (SawLine y : lacking) {
            due("likely(0) without all", y.likely(0), STATE);
            due("likely(1) without all", y.likely(1), STATE);
        }
    }

    private static void each() {
        says("In how many of these sets a FLAW is. UNKNOWN; STATE: as likely().");
        SawLine x = withPushes(1, 2, 3, 4, 9, 9);
        for (int q = 0; q < 6; q++) {
            due("each(" + q + ") without a READING", x.each(q), 6);
        }
        x.reading(0, 5);
        int[] want = {1, 1, 1, 1, 0, 0};
        for (int q = 0; q < 6; q++) {
            due("each(" + q + ")", x.each(q), want[q]);
        }
        for (int q : new int[] {-1, 6, MIN, MAX}) {
            due("each(" + q + ")", x.each(q), UNKNOWN);
        }
        SawLine y = withSaw(IDLE);
        due("each(0) of none, without a BOARD", y.each(0), UNKNOWN);
        y.flaw(0, 0, 0);
        due("each(0) without a BOARD", y.each(0), STATE);
        due("each(1) without a BOARD", y.each(1), UNKNOWN);
        due("each(0) without all", new SawLine().each(0), UNKNOWN);
    }

    /** What an act answers, and BEND, HEIGHT, EDGE of the tooth behind it. */
    private static void actDue(String tooth, int act, int want, int bend, int height, int edge) {
        SawLine x = withSaw("c555;" + tooth);
        due("the act " + act + " on " + tooth, x.act(1, act), want);
        due("BEND", x.ofTooth(1, 2), bend);
        due("HEIGHT", x.ofTooth(1, 3), height);
        due("EDGE", x.ofTooth(1, 4), edge);
        due("the other TOOTH's HEIGHT", x.ofTooth(0, 3), 5);
        due("the other TOOTH's EDGE", x.ofTooth(0, 4), 5);
    }

    private static void file() {
        says("0 FILE (EDGE 2 more, HEIGHT 1 less; costs 2)");
        for (String letter : new String[] {"l", "c", "r"}) {
            actDue(letter + "350", 0, 1, 3, 4, 2);
            actDue(letter + "397", 0, 1, 3, 8, 9);
        }
        actDue("r397h", 0, 1, 3, 8, 9);
        says("Nothing goes above 9, below 0: an act that would is none");
        actDue("l317", 0, 1, 3, 0, 9);
        actDue("l318", 0, 0, 3, 1, 8);
        actDue("l319", 0, 0, 3, 1, 9);
        actDue("l307", 0, 0, 3, 0, 7);
        actDue("l308", 0, 0, 3, 0, 8);
        actDue("c300", 0, 0, 3, 0, 0);
        actDue("c398", 0, 0, 3, 9, 8);
    }

    private static void stoneAndBend() {
        says("1 STONE (BEND 1 less; costs 1), 2 BEND it (1 more; costs 1)");
        actDue("l155", 1, 1, 0, 5, 5);
        actDue("l055", 1, 0, 0, 5, 5);
        actDue("r955h", 1, 1, 8, 5, 5);
        actDue("r855", 2, 1, 9, 5, 5);
        actDue("r955", 2, 0, 9, 5, 5);
        actDue("l055h", 2, 1, 1, 5, 5);
        actDue("l500", 2, 1, 6, 0, 0);
        says("so are 1, 2 of a c TOOTH, 3 of one of HEIGHT 0.");
        actDue("c555", 1, 0, 5, 5, 5);
        actDue("c555", 2, 0, 5, 5, 5);
        actDue("c055", 2, 0, 0, 5, 5);
        actDue("c505", 3, 0, 5, 0, 5);
        actDue("l505", 3, 0, 5, 0, 5);
        actDue("r505h", 3, 0, 5, 0, 5);
    }

    private static void breakOff() {
        says("3 BREAK it off (HEIGHT 0; costs 4)");
        actDue("c515", 3, 1, 5, 0, 5);
        actDue("l590", 3, 1, 5, 0, 0);
        actDue("r999h", 3, 1, 9, 0, 9);
    }

    private static void actRefusals() {
        says("An act on a TOOTH is done: 1; 0: it is none. UNKNOWN; OUTSIDE: act.");
        SawLine x = withSaw("l555;l555;l555;l555;l555;l555;l555;l555");
        for (int k : new int[] {-1, 8, MIN, MAX}) {
            due("TOOTH " + k, x.act(k, 0), UNKNOWN);
            due("TOOTH " + k + ", act 4", x.act(k, 4), UNKNOWN);
        }
        for (int act : new int[] {-1, 4, MIN, MAX}) {
            due("act " + act, x.act(7, act), OUTSIDE);
        }
        for (int act = 0; act < 4; act++) {
            due("act " + act + " on TOOTH 0", x.act(0, act), 1);
            due("act " + act + " on TOOTH 7", x.act(7, act), 1);
        }
        due("act 3 again", x.act(7, 3), 0);
        due("no TOOTH at all", new SawLine().act(0, 4), UNKNOWN);
    }

    private static void row(String name, SawLine x, int m, int acts, int cost, int first, int second) {
        due(name + ": mend(" + m + ", -1)", x.mend(m, -1), cost);
        due(name + ": mend(" + m + ", -2)", x.mend(m, -2), acts);
        due(name + ": mend(" + m + ", 0)", x.mend(m, 0), first);
        due(name + ": mend(" + m + ", 1)", x.mend(m, 1), second);
    }

    private static void noRow(String name, SawLine x, int m) {
        row(name, x, m, NONE, NONE, NONE, NONE);
    }

    private static void mendBounds() {
        says("The cheapest row of 0 to 2 acts (each number 10 times the TOOTH and the act)");
        // PUSH is 20 a BEND, so PLACE is 2 a BEND: 8, by one STONE 6, by two 4.
        SawLine x = with("r445", "140");
        row("none is needed", x, 8, 0, 0, NONE, NONE);
        row("one less than OFF", x, 7, 1, 1, 1, NONE);
        row("just enough", x, 6, 1, 1, 1, NONE);
        row("one less", x, 5, 2, 2, 1, 1);
        row("just enough", x, 4, 2, 2, 1, 1);
        row("two STONES are not enough", x, 3, 1, 4, 3, NONE);
        row("none is needed, asked again", x, 8, 0, 0, NONE, NONE);
        x.hand(9, 0, 0);
        row("two acts again", x, 13, 2, 2, 1, 1);
        noRow("no act is of use", x, 5);
        SawLine y = with("r995;r995;r995", "140");
        noRow("three acts would be needed", y, 0);
        SawLine z = with("l999;l999", "140");
        row("two BREAKS", z, 0, 2, 8, 3, 13);
        says("OFF is m at most");
        SawLine u = with("r999h;r999h;r999h;r999h;r999h;r999h;r999h;r999h", "180".repeat(24));
        row("OFF itself", u, 2376, 0, 0, NONE, NONE);
        row("the greatest m", u, 9999, 0, 0, NONE, NONE);
        noRow("one less than OFF", u, 2375);
    }

    private static void mendPinched() {
        says("behind which the CUT is not PINCHED and OFF is m at most");
        noRow("KERF 1", with("c999", "142"), 9999);
        row("KERF 1 is as much", with("c999", "141"), 9999, 0, 0, NONE, NONE);
        row("a BEND more opens it", with("r001;r011", "142"), 9999, 1, 1, 12, NONE);
        row("two do", with("r011;l011", "143"), 9999, 2, 2, 2, 2);
        row("a FILE makes one TAKE something", with("r120", "142"), 9999, 1, 2, 0, NONE);
        noRow("three would", with("r011;l011", "144"), 9999);
        // PLACE 2 ahead of the pinch: OFF as it is would be small enough.
        noRow("though OFF is", with("r145", "140149"), 9999);
        // A BREAK or a STONE would go straight, but closes the KERF; two FILES PUSH by 18, HEADING by 1.
        row("as it is", with("r145", "142"), 2, 0, 0, NONE, NONE);
        row("what costs less closes it", with("r145", "142"), 1, 2, 4, 0, 0);
        noRow("all that mends it closes it", with("r145", "142"), 0);
    }

    private static void mendCheapest() {
        says("costs 2)");
        // HEIGHT 1 to 0 by a FILE, for 2; a BREAK would cost 4.
        row("a FILE", with("r915", "140"), 0, 1, 2, 0, NONE);
        // EDGE 9 can't be FILED: a BREAK, for 4.
        says("3 BREAK it off (HEIGHT 0; costs 4)");
        row("a BREAK", with("r919", "140"), 0, 1, 4, 3, NONE);
        says("1 STONE (BEND 1 less; costs 1), 2 BEND it (1 more; costs 1)");
        row("a STONE", with("r125", "140"), 0, 1, 1, 1, NONE);
        row("a BEND", with("r125;c111;l025", "140"), 0, 1, 1, 1, NONE);
        row("a BEND alone", with("l025;r125", "140"), 0, 1, 1, 2, NONE);
        row("two acts for 2 ahead of one for 4", with("r229", "140"), 0, 2, 2, 1, 1);
        // FILE of TOOTH 0 is of no use; STONE and BREAK cost 5, two BREAKS 8.
        row("a STONE and a BREAK", with("r159;r999", "140"), 0, 2, 5, 1, 13);
        row("a FILE and a BREAK", with("r915;r999", "140"), 0, 2, 6, 0, 13);
    }

    private static void mendShortestAndFirst() {
        says("of several the shortest, of these the first as a row.");
        // HEIGHT 2 to 0: by a BREAK for 4, by two FILES for 4.
        row("one act of 4 ahead of two of 2", with("r922", "140140"), 0, 1, 4, 3, NONE);
        // It TAKES 9, PUSHES 27: by a FILE nothing, by two STONES 9, each for 2.
        row("one act of 2 ahead of two of 1", with("r317h", "140"), 0, 1, 2, 0, NONE);
        // Either TOOTH may be STONED, or the left one BENT.
        row("the lower TOOTH", with("r129;r129", "140"), 1, 1, 1, 1, NONE);
        row("the lower TOOTH's higher act", with("l129;r229", "140"), 0, 1, 1, 2, NONE);
        row("both, the lower ahead", with("r149;r149", "140"), 0, 2, 2, 1, 11);
        row("twice the first", with("r429;l129", "140"), 1, 2, 2, 1, 1);
        // PLACE 2 by TOOTH 0 or 1 or 2 each: two of the three.
        row("the first two", with("r145;r145;r145", "140"), 2, 2, 2, 1, 11);
    }

    private static void mendNumbers() {
        says("each number 10 times the TOOTH and the act");
        String idle = "c111;c111;c111;c111;c111;c111;c111;";
        row("STONE of TOOTH 7", with(idle + "r125", "140"), 0, 1, 1, 71, NONE);
        // PUSH is 90 and by that BEND 9; by a STONE of TOOTH 0 80.
        row("BEND of TOOTH 7", with("r925;c111;c111;c111;c111;c111;c111;l099", "140"), 0, 1, 1, 72, NONE);
        row("FILE of TOOTH 7", with(idle + "r915", "140"), 0, 1, 2, 70, NONE);
        row("BREAK of TOOTH 7", with(idle + "r999", "140"), 0, 1, 4, 73, NONE);
        // PUSH is 40, 8 less by each BEND of 6, each STONE of 7.
        row("BEND of TOOTH 6 twice", with("c111;c111;c111;c111;c111;c111;l018;r518", "140"), 2, 2, 2, 62, 62);
        row("BREAK of 6 and of 7", with("c111;c111;c111;c111;c111;c111;l999;l999", "140"), 0, 2, 8, 63, 73);
    }

    private static void mendRefusals() {
        says("what it costs (q -1; NONE: there is none), how many acts (-2), the q-th one (0, 1; NONE).");
        row("no acts", with(IDLE, "140"), 0, 0, 0, NONE, NONE);
        row("one act", with("r125", "140"), 0, 1, 1, 1, NONE);
        noRow("no row", with(IDLE, "150"), 0);
        says("OUTSIDE: m; UNKNOWN: q is not -2 .. 1; STATE: there is no SAW, no BOARD.");
        SawLine[] all = {new SawLine(), withSaw(IDLE), withBoard("140"), with(IDLE, "140")};
        for (SawLine x : all) {
            for (int m : new int[] {-1, 10000, MIN, MAX}) {
                due("mend(" + m + ", 0)", x.mend(m, 0), OUTSIDE);
                due("mend(" + m + ", 2)", x.mend(m, 2), OUTSIDE);
                due("mend(" + m + ", -3)", x.mend(m, -3), OUTSIDE);
            }
            for (int q : new int[] {-3, 2, MIN, MAX}) {
                due("mend(0, " + q + ")", x.mend(0, q), UNKNOWN);
                due("mend(9999, " + q + ")", x.mend(9999, q), UNKNOWN);
            }
        }
        for (int k = 0; k < 3; k++) {
            for (int q = -2; q <= 1; q++) {
                due("mend(0, " + q + ") without all", all[k].mend(0, q), STATE);
                due("mend(9999, " + q + ") without all", all[k].mend(9999, q), STATE);
            }
        }
    }
}
