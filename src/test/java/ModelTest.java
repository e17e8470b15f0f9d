import java.util.Random;

/** Long runs of mixed calls, good and wrong, on SawLine and on the model: all answers alike. */
public final class ModelTest {
    private static final Due DUE = new Due("ModelTest");
    private static final int[] ODD = {-1, 80, 81, 512, Integer.MIN_VALUE, Integer.MAX_VALUE, -2, 10, 100};

    private final Random random;
    private final int run;
    private final SawLine x = new SawLine();
    private final Model m = new Model();
    private final StringBuilder story = new StringBuilder();
    private int calls = 0;

    private ModelTest(int run) {
        this.run = run;
        this.random = new Random(run * 7919L + 17);
    }

    public static void main(String[] args) {
        for (int run = 0; run < 2500 && !DUE.anyWrong(); run++) {
            new ModelTest(run).go();
        }
        DUE.end();
    }

    private int any(int least, int most) {
        return random.nextInt(25) == 0 ? ODD[random.nextInt(ODD.length)] : good(least, most);
    }

    private int good(int least, int most) {
        return least + random.nextInt(most - least + 1);
    }

    private void due(String call, long got, long want) {
        calls++;
        story.append(' ').append(call);
        boolean fine = !DUE.anyWrong();
        DUE.is("run " + run + ", " + call, got, want);
        if (fine && DUE.anyWrong()) {
            System.out.println("run " + run + ":" + story);
        }
    }

    private void go() {
        if (random.nextInt(10) > 0) {
            writeText(sawText(), true);
            writeText(boardText(), false);
        }
        // What the document promises ends with the 512th call; a text takes up to 82 of them.
        while (calls < 425) {
            int pick = random.nextInt(100);
            if (pick == 0) {
                writeText(sawText(), true);
            } else if (pick == 1) {
                writeText(boardText(), false);
            } else if (pick == 2) {
                writeLog();
            } else {
                pickCall(good(0, 36));
            }
            due("fault()", x.fault(), m.fault());
            if (random.nextInt(4) == 0) {
                due("trace()", x.trace(), m.trace());
            }
        }
    }

    private String sawText() {
        StringBuilder b = new StringBuilder();
        int teeth = random.nextInt(12) == 0 ? 9 : good(1, 8);
        for (int k = 0; k < teeth; k++) {
            if (k > 0) {
                b.append(';');
            }
            char letter = "lllccrrr".charAt(random.nextInt(8));
            b.append(letter).append(good(0, 9)).append(good(0, 9)).append(good(0, 9));
            if (letter != 'c' && random.nextInt(3) == 0) {
                b.append('h');
            }
        }
        return spoil(b);
    }

    private String boardText() {
        StringBuilder b = new StringBuilder();
        int lines = random.nextInt(12) == 0 ? 25 : good(1, 24);
        boolean open = random.nextBoolean();
        for (int t = 0; t < lines; t++) {
            b.append(good(1, 9)).append(good(0, 8)).append(open ? good(0, 2) : good(0, 9));
        }
        return spoil(b);
    }

    private String spoil(StringBuilder b) {
        int pick = random.nextInt(20);
        if (pick == 0) {
            b.setCharAt(random.nextInt(b.length()), "lcrh;0189x/:".charAt(random.nextInt(12)));
        } else if (pick == 1) {
            b.setLength(random.nextInt(b.length()));
        } else if (pick == 2) {
            b.append("lcrh;0189x".charAt(random.nextInt(10)));
        }
        return b.toString();
    }

    private void writeText(String text, boolean isSaw) {
        int k = good(0, 3);
        int lane = good(0, 2);
        int n = Math.min(text.length(), 80);
        int from = random.nextInt(3) == 0 ? good(0, 80 - n) : 0;
        due("sheet(" + k + ", " + lane + ", " + (from + n) + ")", x.sheet(k, lane, from + n), m.sheet(k, lane, from + n));
        for (int p = 0; p < n; p++) {
            int at = from + p;
            int v = text.charAt(p);
            due("put(" + k + ", " + at + ", " + v + ")", x.put(k, at, v), m.put(k, at, v));
        }
        String args = "(" + k + ", " + lane + ", " + from + ", " + n + ")";
        if (isSaw) {
            due("saw" + args, x.saw(k, lane, from, n), m.saw(k, lane, from, n));
        } else {
            due("board" + args, x.board(k, lane, from, n), m.board(k, lane, from, n));
        }
    }

    private void writeLog() {
        int k = good(0, 3);
        int lane = good(0, 2);
        int n = good(2, 7);
        due("sheet(" + k + ", " + lane + ", " + n + ")", x.sheet(k, lane, n), m.sheet(k, lane, n));
        for (int p = 0; p < n; p++) {
            int v = random.nextInt(40) == 0 ? good(-11, 11) : good(-9, 9);
            due("put(" + k + ", " + p + ", " + v + ")", x.put(k, p, v), m.put(k, p, v));
        }
        for (int q = -2; q <= 6; q++) {
            due("log(" + k + ", " + lane + ", 0, " + n + ", " + q + ")", x.log(k, lane, 0, n, q), m.log(k, lane, 0, n, q));
        }
    }

    private void pickCall(int pick) {
        int k = any(0, 7);
        int t = any(0, 23);
        int v = any(0, 9);
        int what = any(-1, 3);
        int act = any(0, 3);
        int sheet = any(0, 3);
        int lane = any(-1, 3);
        int i = any(-1, 10);
        int n = any(-1, 12);
        switch (pick) {
            case 0: due("saw " + sheet + " " + lane + " " + i + " " + n, x.saw(sheet, lane, i, n), m.saw(sheet, lane, i, n)); break;
            case 1: what = any(-1, 7); due("ofTooth " + k + " " + what, x.ofTooth(k, what), m.ofTooth(k, what)); break;
            case 2: due("set " + k + " " + what + " " + v, x.set(k, what, v), m.set(k, what, v)); break;
            case 3: due("ofSaw " + what, x.ofSaw(what), m.ofSaw(what)); break;
            case 4: due("board " + sheet + " " + lane + " " + i + " " + n, x.board(sheet, lane, i, n), m.board(sheet, lane, i, n)); break;
            case 5: due("ofLine " + t + " " + what, x.ofLine(t, what), m.ofLine(t, what)); break;
            case 6: int lean = any(-9, 9); int late = any(0, 5); due("hand " + lean + " " + v + " " + late, x.hand(lean, v, late), m.hand(lean, v, late)); break;
            case 7: due("ofHand " + what, x.ofHand(what), m.ofHand(what)); break;
            case 8: int rail = random.nextBoolean() ? 0 : any(0, 99); due("fence " + rail, x.fence(rail), m.fence(rail)); break;
            case 9: due("where " + t, x.where(t), m.where(t)); break;
            case 10: due("heading " + t, x.heading(t), m.heading(t)); break;
            case 11: due("off", x.off(), m.off()); break;
            case 12: due("pinched", x.pinched(), m.pinched()); break;
            case 13: due("marks " + t, x.marks(t), m.marks(t)); break;
            case 14: calls++; int p = random.nextInt(4) == 0 ? any(-99, 99) : (int) x.where(t) + good(-9, 9); due("which " + t + " " + p, x.which(t, p), m.which(t, p)); break;
            case 15: what = any(-1, 4); due("straightest " + what, x.straightest(what), m.straightest(what)); break;
            case 16: due("flaw " + k + " " + what + " " + v, x.flaw(k, what, v), m.flaw(k, what, v)); break;
            case 17: due("ofFlaw " + k + " " + what, x.ofFlaw(k, what), m.ofFlaw(k, what)); break;
            case 18: readAsFlawed(k, what, v, t); break;
            case 19: due("back " + act, x.back(act), m.back(act)); break;
            case 20: due("likely " + what, x.likely(what), m.likely(what)); break;
            case 21: due("each " + k, x.each(k), m.each(k)); break;
            case 22: act = any(-1, 4); due("act " + k + " " + act, x.act(k, act), m.act(k, act)); break;
            case 23: int most = any(0, random.nextBoolean() ? 60 : 600); int q = any(-3, 2); due("mend " + most + " " + q, x.mend(most, q), m.mend(most, q)); break;
            case 24: q = any(-2, 6); due("log " + sheet + " " + lane + " " + i + " " + n + " " + q, x.log(sheet, lane, i, n, q), m.log(sheet, lane, i, n, q)); break;
            case 25: n = any(-1, 81); due("sheet " + sheet + " " + lane + " " + n, x.sheet(sheet, lane, n), m.sheet(sheet, lane, n)); break;
            case 26: due("lose " + sheet, x.lose(sheet), m.lose(sheet)); break;
            case 27: v = random.nextInt(); due("put " + sheet + " " + i + " " + v, x.put(sheet, i, v), m.put(sheet, i, v)); break;
            case 28: due("cell " + sheet + " " + i + " " + lane, x.cell(sheet, i, lane), m.cell(sheet, i, lane)); break;
            case 29: int other = any(0, 3); int j = any(-1, 10); due("copy " + sheet + " " + i + " " + other + " " + j + " " + n, x.copy(sheet, i, other, j, n), m.copy(sheet, i, other, j, n)); break;
            case 30: due("tell " + k, x.tell(k), m.tell(k)); break;
            case 31: due("joint " + k, x.joint(k), m.joint(k)); break;
            case 32: due("as " + k + " " + what, x.as(k, what), m.as(k, what)); break;
            case 33: what = any(-1, 5); due("many " + what, x.many(what), m.many(what)); break;
            default: readCells(sheet); break;
        }
    }

    /** Reads where a cut with a flaw would be, so that sets of flaws fit now and then. */
    private void readAsFlawed(int k, int what, int v, int t) {
        calls += 3;
        int was = x.set(k, what, v);
        long place = x.where(t);
        if (was >= 0) {
            x.set(k, what, was);
        }
        int p = place == SawLine.LOST ? good(-20, 20) : (int) place;
        due("reading " + t + " " + p, x.reading(t, p), m.reading(t, p));
    }

    private void readCells(int sheet) {
        for (int lane = 0; lane < 3; lane++) {
            for (int i = 0; i < 12; i++) {
                due("cell " + sheet + " " + i + " " + lane, x.cell(sheet, i, lane), m.cell(sheet, i, lane));
            }
        }
    }
}
