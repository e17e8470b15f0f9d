/**
 * A saw that wanders through a board. Every row is made with the object and used again: no call
 * makes anything, so that many objects and calls fit into one room.
 */
public final class SawLine {
    public static final int UNKNOWN = -1, OUTSIDE = -2, STATE = -3, FULL = -4, NONE = -9;
    public static final long LOST = Long.MIN_VALUE;

    private static final int FINE = 0;
    private static final int NO_FAULT = 0, NULL = 1, CAST = 2, INDEX = 3, SIZE = 4;
    private static final int WHOLE_TEXT = -1;
    private static final int MOST_DIGIT = 9;

    private final Sheets sheets = new Sheets();
    private final Saw teeth = new Saw();
    private final Saw once = new Saw();
    private final Saw twice = new Saw();
    private final Board lines = new Board();
    private final Hand grip = new Hand();
    private final Hand otherGrip = new Hand();
    private final Cut cut = new Cut();
    private final Flaws flaws = new Flaws();
    private final Readings readings = new Readings();
    private final Mending mending = new Mending();
    private final Slabs slabs = new Slabs();
    private int trail = 0;
    private int lastFault = NO_FAULT;

    public SawLine() {
    }

    // ---- 1 the saw

    public int saw(int sheet, int lane, int i, int n) {
        int refusal = refusalOfCells(sheet, lane, i, n);
        if (refusal != FINE) {
            return refusal;
        }
        // The text goes to a spare saw first: a faulty one must leave the saw as it is.
        int firstFault = once.read(sheets, sheet, i, n);
        if (firstFault != WHOLE_TEXT) {
            return -100 - firstFault;
        }
        teeth.become(once);
        flaws.count = 0;
        readings.count = 0;
        return teeth.count;
    }

    public int ofTooth(int k, int what) {
        if (!teeth.has(k)) {
            return UNKNOWN;
        }
        switch (what) {
            case 0: return teeth.kindOf(k);
            case 1: return teeth.sideOf(k);
            case 2: return teeth.sizeOf(k, Saw.BEND);
            case 3: return teeth.sizeOf(k, Saw.HEIGHT);
            case 4: return teeth.sizeOf(k, Saw.EDGE);
            case 5: return teeth.takes(k);
            case 6: return teeth.pushes(k);
            default: return OUTSIDE;
        }
    }

    public int set(int k, int what, int v) {
        if (!teeth.has(k)) {
            return UNKNOWN;
        }
        if (!Saw.isSize(what) || !isWithin(v, 0, MOST_DIGIT)) {
            return OUTSIDE;
        }
        int was = teeth.sizeOf(k, what);
        teeth.change(k, what, v);
        return was;
    }

    public int ofSaw(int what) {
        if (!isWithin(what, 0, 2)) {
            return OUTSIDE;
        }
        if (teeth.count == 0) {
            return STATE;
        }
        switch (what) {
            case 0: return teeth.push();
            case 1: return teeth.kerf();
            default: return teeth.taken();
        }
    }

    // ---- 2 the board, the hand, the cut

    public int board(int sheet, int lane, int i, int n) {
        int refusal = refusalOfCells(sheet, lane, i, n);
        if (refusal != FINE) {
            return refusal;
        }
        int firstFault = Board.firstFault(sheets, sheet, i, n);
        if (firstFault != WHOLE_TEXT) {
            return -100 - firstFault;
        }
        lines.read(sheets, sheet, i, n);
        readings.count = 0;
        return lines.count;
    }

    public int ofLine(int t, int what) {
        if (!lines.has(t)) {
            return UNKNOWN;
        }
        switch (what) {
            case 0: return lines.hardOf(t);
            case 1: return lines.grainOf(t);
            case 2: return lines.closesOf(t);
            default: return OUTSIDE;
        }
    }

    public int hand(int lean, int steers, int late) {
        if (!isWithin(lean, -Hand.MOST_LEAN, Hand.MOST_LEAN)
                || !isWithin(steers, 0, Hand.MOST_STEERS)
                || !isWithin(late, 0, Hand.MOST_LATE)) {
            return OUTSIDE;
        }
        grip.lean = lean;
        grip.steers = steers;
        grip.late = late;
        return 1;
    }

    public int ofHand(int what) {
        switch (what) {
            case 0: return grip.lean;
            case 1: return grip.steers;
            case 2: return grip.late;
            default: return OUTSIDE;
        }
    }

    public int fence(int v) {
        if (!isWithin(v, 0, Hand.MOST_FENCE)) {
            return OUTSIDE;
        }
        int was = grip.rail;
        grip.rail = v;
        return was;
    }

    public long where(int t) {
        return refusalOfStroke(t) == FINE ? cut.placeBehind(t) : LOST;
    }

    public long heading(int t) {
        return refusalOfStroke(t) == FINE ? cut.headingBehind(t) : LOST;
    }

    public int off() {
        if (lacksSawOrBoard()) {
            return STATE;
        }
        cutAsItIs();
        return cut.farthest;
    }

    public int pinched() {
        if (lacksSawOrBoard()) {
            return STATE;
        }
        cutAsItIs();
        return cut.pinchedAt;
    }

    public int marks(int t) {
        int refusal = refusalOfStroke(t);
        return refusal == FINE ? teeth.countMarks() : refusal;
    }

    public int which(int t, int p) {
        int refusal = refusalOfStroke(t);
        return refusal == FINE ? teeth.whichLeave(cut.placeBehind(t), p) : refusal;
    }

    // ---- 3 the straightest

    public int straightest(int what) {
        if (!isWithin(what, 0, 3)) {
            return OUTSIDE;
        }
        if (lacksSawOrBoard()) {
            return STATE;
        }
        switch (what) {
            case 0: return straightestLean();
            case 1: return straightestSteers();
            case 2: return offByLean(straightestLean());
            default: return offBySteers(straightestSteers());
        }
    }

    // ---- 4 flaws

    public int flaw(int k, int what, int v) {
        if (!teeth.has(k)) {
            return UNKNOWN;
        }
        if (!Saw.isSize(what) || !isWithin(v, 0, MOST_DIGIT)) {
            return OUTSIDE;
        }
        return flaws.add(k, what, v);
    }

    public int ofFlaw(int q, int what) {
        if (!flaws.has(q)) {
            return UNKNOWN;
        }
        switch (what) {
            case 0: return flaws.toothOf(q);
            case 1: return flaws.whatOf(q);
            case 2: return flaws.valueOf(q);
            default: return OUTSIDE;
        }
    }

    public int reading(int t, int place) {
        if (!lines.has(t)) {
            return UNKNOWN;
        }
        return readings.add(t, place);
    }

    public int back(int k) {
        if (!isWithin(k, 0, readings.count)) {
            return OUTSIDE;
        }
        readings.count -= k;
        return readings.count;
    }

    public int likely(int what) {
        if (!isWithin(what, 0, 1)) {
            return OUTSIDE;
        }
        if (lacksSawOrBoard()) {
            return STATE;
        }
        return what == 0 ? countFitting(0) : firstOfFewest();
    }

    public int each(int q) {
        if (!flaws.has(q)) {
            return UNKNOWN;
        }
        if (lacksSawOrBoard()) {
            return STATE;
        }
        return countFitting(1 << q);
    }

    // ---- 5 mending

    public int act(int k, int act) {
        if (!teeth.has(k)) {
            return UNKNOWN;
        }
        if (!isWithin(act, 0, Mending.ACTS - 1)) {
            return OUTSIDE;
        }
        return teeth.mendBy(k, act) ? 1 : 0;
    }

    public int mend(int m, int q) {
        if (!isWithin(m, 0, Mending.MOST_OFF)) {
            return OUTSIDE;
        }
        if (!isWithin(q, -2, 1)) {
            return UNKNOWN;
        }
        if (lacksSawOrBoard()) {
            return STATE;
        }
        seekMending(m);
        switch (q) {
            case -2: return mending.length;
            case -1: return mending.cost;
            case 0: return mending.first;
            default: return mending.second;
        }
    }

    // ---- 6 logs, sheets, parts

    public int log(int sheet, int lane, int i, int n, int q) {
        int refusal = refusalOfCells(sheet, lane, i, n);
        if (refusal != FINE) {
            return refusal;
        }
        if (!slabs.read(sheets, sheet, i, n)) {
            return OUTSIDE;
        }
        if (!isWithin(q, -1, Slabs.MOST_CUTS - 1)) {
            return UNKNOWN;
        }
        slabs.weighOrders();
        return q == -1 ? slabs.leastCost() : slabs.cutOfOrder(q);
    }

    public int sheet(int k, int lane, int n) {
        lastFault = NO_FAULT;
        if (!Sheets.isSheet(k)) {
            return UNKNOWN;
        }
        if (!Sheets.isLane(lane) || n > Sheets.MOST_CELLS) {
            return OUTSIDE;
        }
        if (n < 0) {
            return answerOfFault(SIZE);
        }
        sheets.renew(k, lane, n);
        return 1;
    }

    public int lose(int k) {
        if (!Sheets.isSheet(k)) {
            return UNKNOWN;
        }
        return sheets.drop(k) ? 1 : 0;
    }

    public int put(int k, int i, int v) {
        lastFault = NO_FAULT;
        if (!Sheets.isSheet(k)) {
            return UNKNOWN;
        }
        if (sheets.isNothing(k)) {
            return answerOfFault(NULL);
        }
        if (!sheets.hasCell(k, i)) {
            return answerOfFault(INDEX);
        }
        sheets.write(k, i, v);
        return 1;
    }

    public long cell(int k, int i, int lane) {
        lastFault = NO_FAULT;
        if (!Sheets.isSheet(k) || !Sheets.isLane(lane)) {
            return LOST;
        }
        lastFault = sheets.faultOfRow(k, lane);
        if (lastFault == NO_FAULT && !sheets.hasCell(k, i)) {
            lastFault = INDEX;
        }
        return lastFault == NO_FAULT ? sheets.at(k, i) : LOST;
    }

    public int copy(int k, int i, int other, int j, int n) {
        lastFault = NO_FAULT;
        if (!Sheets.isSheet(k) || !Sheets.isSheet(other)) {
            return UNKNOWN;
        }
        if (sheets.isNothing(k) || sheets.isNothing(other)) {
            return answerOfFault(NULL);
        }
        if (!sheets.areOfOneLane(k, other)) {
            return answerOfFault(CAST);
        }
        if (!sheets.hasCells(k, i, n) || !sheets.hasCells(other, j, n)) {
            return answerOfFault(INDEX);
        }
        sheets.carry(k, i, other, j, n);
        return n;
    }

    public int tell(int k) {
        if (!teeth.has(k)) {
            return UNKNOWN;
        }
        switch (teeth.kindOf(k)) {
            case Saw.HOOKED: return tellAsHooked(k);
            case Saw.BENT: return tellAsBent(k);
            default: return tellAsTooth(k);
        }
    }

    public int joint(int k) {
        if (!teeth.has(k)) {
            return UNKNOWN;
        }
        if (teeth.kindOf(k) == Saw.HOOKED) {
            leaveInTrail(5);
            return 70;
        }
        leaveInTrail(4);
        return k;
    }

    public int as(int k, int kind) {
        lastFault = NO_FAULT;
        if (!teeth.has(k)) {
            return UNKNOWN;
        }
        if (!isWithin(kind, Saw.STRAIGHT, Saw.HOOKED)) {
            return OUTSIDE;
        }
        // Each kind is one of all the kinds with lower numbers.
        return teeth.kindOf(k) >= kind ? 1 : answerOfFault(CAST);
    }

    public int trace() {
        return trail;
    }

    public int fault() {
        return lastFault;
    }

    public int many(int what) {
        switch (what) {
            case 0: return teeth.count;
            case 1: return lines.count;
            case 2: return flaws.count;
            case 3: return readings.count;
            case 4: return countStrokes();
            default: return OUTSIDE;
        }
    }

    // ---- what the calls share

    private static boolean isWithin(int v, int least, int most) {
        return v >= least && v <= most;
    }

    private int answerOfFault(int found) {
        lastFault = found;
        return -10 - found;
    }

    /** What saw(), board(), log() say of n cells before they look into them. */
    private int refusalOfCells(int k, int lane, int i, int n) {
        lastFault = NO_FAULT;
        if (!Sheets.isSheet(k)) {
            return UNKNOWN;
        }
        if (!Sheets.isLane(lane)) {
            return OUTSIDE;
        }
        int found = sheets.faultOfRow(k, lane);
        if (found != NO_FAULT) {
            return answerOfFault(found);
        }
        if (n < 0) {
            return answerOfFault(SIZE);
        }
        return sheets.hasCells(k, i, n) ? FINE : answerOfFault(INDEX);
    }

    private boolean lacksSawOrBoard() {
        return teeth.count == 0 || lines.count == 0;
    }

    private void cutAsItIs() {
        cut.go(teeth, lines, grip);
    }

    private int countStrokes() {
        if (lacksSawOrBoard()) {
            return 0;
        }
        cutAsItIs();
        return cut.strokes;
    }

    /** Makes the cut too, so that its stroke of the line t can be asked where this is FINE. */
    private int refusalOfStroke(int t) {
        if (!lines.has(t)) {
            return UNKNOWN;
        }
        return t < countStrokes() ? FINE : STATE;
    }

    private int offByLean(int lean) {
        otherGrip.become(grip);
        otherGrip.lean = lean;
        cut.go(teeth, lines, otherGrip);
        return cut.farthest;
    }

    private int offBySteers(int steers) {
        otherGrip.become(grip);
        otherGrip.steers = steers;
        cut.go(teeth, lines, otherGrip);
        return cut.farthest;
    }

    /** Goes from the least size on, below 0 first, so that only a better one takes the place. */
    private int straightestLean() {
        int best = 0;
        int least = offByLean(0);
        for (int size = 1; size <= Hand.MOST_LEAN; size++) {
            for (int sign = -1; sign <= 1; sign += 2) {
                int found = offByLean(sign * size);
                if (found < least) {
                    least = found;
                    best = sign * size;
                }
            }
        }
        return best;
    }

    private int straightestSteers() {
        int best = 0;
        int least = offBySteers(0);
        for (int steers = 1; steers <= Hand.MOST_STEERS; steers++) {
            int found = offBySteers(steers);
            if (found < least) {
                least = found;
                best = steers;
            }
        }
        return best;
    }

    private boolean fits(int chosen) {
        once.become(teeth);
        flaws.applyTo(once, chosen);
        cut.go(once, lines, grip);
        return readings.areSo(cut);
    }

    /** How many sets fit that have all of the wanted flaws. */
    private int countFitting(int wanted) {
        int sets = 1 << flaws.count;
        int found = 0;
        for (int chosen = 0; chosen < sets; chosen++) {
            boolean counts = Integer.bitCount(chosen) <= Flaws.MOST_AT_ONCE
                    && (chosen & wanted) == wanted;
            if (counts && fits(chosen)) {
                found++;
            }
        }
        return found;
    }

    private int firstOfFewest() {
        int sets = 1 << flaws.count;
        for (int size = 0; size <= Flaws.MOST_AT_ONCE; size++) {
            for (int chosen = 0; chosen < sets; chosen++) {
                if (Integer.bitCount(chosen) == size && fits(chosen)) {
                    return chosen;
                }
            }
        }
        return NONE;
    }

    private boolean goesStraightEnough(Saw saw, int m) {
        cut.go(saw, lines, grip);
        return cut.pinchedAt == NONE && cut.farthest <= m;
    }

    /** Shorter rows come first, then by number, so that only a cheaper row takes the place. */
    private void seekMending(int m) {
        mending.forget();
        if (goesStraightEnough(teeth, m)) {
            mending.keepNoAct();
            return;
        }
        int acts = teeth.count * Mending.ACTS;
        for (int a = 0; a < acts; a++) {
            once.become(teeth);
            if (mending.isCheaper(Mending.costOf(a))
                    && once.mendBy(a / Mending.ACTS, a % Mending.ACTS)
                    && goesStraightEnough(once, m)) {
                mending.keepOneAct(a);
            }
        }
        for (int a = 0; a < acts; a++) {
            once.become(teeth);
            if (once.mendBy(a / Mending.ACTS, a % Mending.ACTS)) {
                seekSecondAct(a, m);
            }
        }
    }

    private void seekSecondAct(int a, int m) {
        int acts = teeth.count * Mending.ACTS;
        // Acts on unlike teeth come to the same in either order, and the lower tooth ahead is the
        // first as a row: so the second act is never on a lower tooth.
        for (int b = a - a % Mending.ACTS; b < acts; b++) {
            if (!mending.isCheaper(Mending.costOf(a) + Mending.costOf(b))) {
                continue;
            }
            twice.become(once);
            if (twice.mendBy(b / Mending.ACTS, b % Mending.ACTS)
                    && goesStraightEnough(twice, m)) {
                mending.keepTwoActs(a, b);
            }
        }
    }

    private void leaveInTrail(int body) {
        trail = 31 * trail + body;
    }

    private int tellAsTooth(int k) {
        leaveInTrail(1);
        return teeth.sizeOf(k, Saw.EDGE);
    }

    private int tellAsBent(int k) {
        leaveInTrail(2);
        return tellAsTooth(k) + 100;
    }

    private int tellAsHooked(int k) {
        leaveInTrail(3);
        int given = tellAsBent(k);
        return given + tellAsTooth(k);
    }

    /** The sheets side by side in one row; a lane of NOTHING tells that a sheet has no row. */
    private static final class Sheets {
        static final int SHEETS = 4, MOST_CELLS = 80;
        static final int NOTHING = -1, BYTES = 0, SHORTS = 1, INTS = 2;

        private final int[] lanes = new int[SHEETS];
        private final int[] sizes = new int[SHEETS];
        private final int[] cells = new int[SHEETS * MOST_CELLS];

        Sheets() {
            for (int k = 0; k < SHEETS; k++) {
                lanes[k] = NOTHING;
            }
        }

        static boolean isSheet(int k) {
            return k >= 0 && k < SHEETS;
        }

        static boolean isLane(int lane) {
            return lane >= BYTES && lane <= INTS;
        }

        boolean isNothing(int k) {
            return !isSheet(k) || lanes[k] == NOTHING;
        }

        boolean areOfOneLane(int k, int other) {
            return isSheet(k) && isSheet(other) && lanes[k] == lanes[other];
        }

        boolean hasCell(int k, int i) {
            return !isNothing(k) && i >= 0 && i < sizes[k];
        }

        boolean hasCells(int k, int i, int n) {
            // n is taken from the size, for i + n could wrap.
            return !isNothing(k) && i >= 0 && i <= sizes[k] && n >= 0 && n <= sizes[k] - i;
        }

        /** What taking a sheet as a row of a lane comes to. */
        int faultOfRow(int k, int lane) {
            if (isNothing(k)) {
                return NULL;
            }
            return lanes[k] == lane ? NO_FAULT : CAST;
        }

        int at(int k, int i) {
            return hasCell(k, i) ? cells[k * MOST_CELLS + i] : 0;
        }

        void renew(int k, int lane, int n) {
            if (!isSheet(k) || !isLane(lane) || n < 0 || n > MOST_CELLS) {
                return;
            }
            lanes[k] = lane;
            sizes[k] = n;
            for (int i = 0; i < n; i++) {
                cells[k * MOST_CELLS + i] = 0;
            }
        }

        boolean drop(int k) {
            if (isNothing(k)) {
                return false;
            }
            lanes[k] = NOTHING;
            sizes[k] = 0;
            return true;
        }

        void write(int k, int i, int v) {
            if (!hasCell(k, i)) {
                return;
            }
            int kept = v;
            if (lanes[k] == BYTES) {
                kept = (byte) v;
            } else if (lanes[k] == SHORTS) {
                kept = (short) v;
            }
            cells[k * MOST_CELLS + i] = kept;
        }

        void carry(int k, int i, int other, int j, int n) {
            if (hasCells(k, i, n) && hasCells(other, j, n)) {
                // arraycopy takes the cells as they were, also where the two runs overlap.
                System.arraycopy(cells, k * MOST_CELLS + i, cells, other * MOST_CELLS + j, n);
            }
        }
    }

    /** Teeth, as rows by tooth: so a saw can be taken over into a spare one and tried there. */
    private static final class Saw {
        static final int MOST_TEETH = 8;
        static final int STRAIGHT = 0, BENT = 1, HOOKED = 2;
        static final int BEND = 0, HEIGHT = 1, EDGE = 2, SIZES = 3;
        static final int WRONG = -1, LETTER = 0, LAST_DIGIT = 3, BEHIND_DIGITS = 4, BEHIND_HOOK = 5;

        int count = 0;
        private final int[] kinds = new int[MOST_TEETH];
        private final int[] sides = new int[MOST_TEETH];
        private final int[] sizes = new int[MOST_TEETH * SIZES];

        static boolean isSize(int what) {
            return what >= BEND && what <= EDGE;
        }

        boolean has(int k) {
            return k >= 0 && k < count && k < MOST_TEETH;
        }

        int kindOf(int k) {
            return has(k) ? kinds[k] : STRAIGHT;
        }

        int sideOf(int k) {
            return has(k) ? sides[k] : 0;
        }

        int sizeOf(int k, int what) {
            return has(k) && isSize(what) ? sizes[k * SIZES + what] : 0;
        }

        void change(int k, int what, int v) {
            if (has(k) && isSize(what)) {
                sizes[k * SIZES + what] = v;
            }
        }

        void become(Saw other) {
            count = other.count;
            System.arraycopy(other.kinds, 0, kinds, 0, MOST_TEETH);
            System.arraycopy(other.sides, 0, sides, 0, MOST_TEETH);
            System.arraycopy(other.sizes, 0, sizes, 0, MOST_TEETH * SIZES);
        }

        /** Becomes the saw of a text: WHOLE_TEXT, or its first fault with the teeth ahead of it. */
        int read(Sheets from, int k, int i, int n) {
            count = 0;
            int step = LETTER;
            for (int p = 0; p < n; p++) {
                step = readCode(step, from.at(k, i + p));
                if (step == WRONG) {
                    return p;
                }
            }
            return step == BEHIND_DIGITS || step == BEHIND_HOOK ? WHOLE_TEXT : n;
        }

        /** Takes a code; the step that comes then, or WRONG where no text goes on with it. */
        private int readCode(int step, int code) {
            if (step == LETTER) {
                return beginTooth(code) ? step + 1 : WRONG;
            }
            if (step <= LAST_DIGIT) {
                if (code < '0' || code > '9') {
                    return WRONG;
                }
                // The digits stand in the order of the sizes, right behind the letter.
                change(count - 1, step - 1, code - '0');
                return step + 1;
            }
            if (code == ';') {
                return count < MOST_TEETH ? LETTER : WRONG;
            }
            if (code == 'h' && step == BEHIND_DIGITS && kindOf(count - 1) == BENT) {
                kinds[count - 1] = HOOKED;
                return BEHIND_HOOK;
            }
            return WRONG;
        }

        private boolean beginTooth(int code) {
            if (count >= MOST_TEETH || (code != 'l' && code != 'c' && code != 'r')) {
                return false;
            }
            kinds[count] = code == 'c' ? STRAIGHT : BENT;
            sides[count] = code == 'l' ? -1 : code == 'r' ? 1 : 0;
            count++;
            return true;
        }

        int takes(int k) {
            if (k < 0 || k >= MOST_TEETH) {
                return 0;
            }
            int steel = sizes[k * SIZES + HEIGHT] * sizes[k * SIZES + EDGE];
            return steel > 0 && kinds[k] == HOOKED ? steel + 2 : steel;
        }

        /** The bend to its side; 0 of a straight tooth, whatever bend its text tells. */
        private int leaning(int k) {
            if (k < 0 || k >= MOST_TEETH) {
                return 0;
            }
            return sides[k] * sizes[k * SIZES + BEND];
        }

        int pushes(int k) {
            return takes(k) * leaning(k);
        }

        int push() {
            int all = 0;
            for (int k = 0; k < count; k++) {
                all += takes(k) * leaning(k);
            }
            return all;
        }

        int taken() {
            int all = 0;
            for (int k = 0; k < count; k++) {
                all += takes(k);
            }
            return all;
        }

        int kerf() {
            int left = 0;
            int right = 0;
            for (int k = 0; k < count; k++) {
                if (takes(k) > 0) {
                    left = Math.max(left, -leaning(k));
                    right = Math.max(right, leaning(k));
                }
            }
            return 1 + left + right;
        }

        int countMarks() {
            int found = 0;
            for (int k = 0; k < count; k++) {
                if (takes(k) > 0 && !isMarkedAhead(k)) {
                    found++;
                }
            }
            return found;
        }

        private boolean isMarkedAhead(int k) {
            for (int j = 0; j < k; j++) {
                if (takes(j) > 0 && leaning(j) == leaning(k)) {
                    return true;
                }
            }
            return false;
        }

        int whichLeave(int place, int p) {
            int found = 0;
            for (int k = 0; k < count; k++) {
                if (takes(k) > 0 && place + leaning(k) == p) {
                    found |= 1 << k;
                }
            }
            return found;
        }

        /** Does an act on a tooth; false where it is none, and then nothing is changed. */
        boolean mendBy(int k, int act) {
            switch (act) {
                case Mending.FILE: return fileIt(k);
                case Mending.STONE: return bendBy(k, -1);
                case Mending.MORE_BEND: return bendBy(k, 1);
                case Mending.BREAK: return breakOff(k);
                default: return false;
            }
        }

        private boolean fileIt(int k) {
            int edge = sizeOf(k, EDGE) + 2;
            int height = sizeOf(k, HEIGHT) - 1;
            if (edge > MOST_DIGIT || height < 0) {
                return false;
            }
            change(k, EDGE, edge);
            change(k, HEIGHT, height);
            return true;
        }

        private boolean bendBy(int k, int more) {
            int bend = sizeOf(k, BEND) + more;
            if (kindOf(k) == STRAIGHT || bend < 0 || bend > MOST_DIGIT) {
                return false;
            }
            change(k, BEND, bend);
            return true;
        }

        private boolean breakOff(int k) {
            if (sizeOf(k, HEIGHT) == 0) {
                return false;
            }
            change(k, HEIGHT, 0);
            return true;
        }
    }

    /** Lines of a board, three codes each. */
    private static final class Board {
        static final int MOST_LINES = 24, CODES = 3;
        static final int NO_GRAIN = 4;

        int count = 0;
        private final int[] hard = new int[MOST_LINES];
        private final int[] grain = new int[MOST_LINES];
        private final int[] closes = new int[MOST_LINES];

        boolean has(int t) {
            return t >= 0 && t < count && t < MOST_LINES;
        }

        int hardOf(int t) {
            return has(t) ? hard[t] : 0;
        }

        int grainOf(int t) {
            return has(t) ? grain[t] : 0;
        }

        int closesOf(int t) {
            return has(t) ? closes[t] : 0;
        }

        static int firstFault(Sheets from, int k, int i, int n) {
            for (int p = 0; p < n; p++) {
                if (p >= MOST_LINES * CODES || !goesOnWith(p % CODES, from.at(k, i + p))) {
                    return p;
                }
            }
            return n > 0 && n % CODES == 0 ? WHOLE_TEXT : n;
        }

        private static boolean goesOnWith(int column, int code) {
            switch (column) {
                case 0: return code >= '1' && code <= '9';
                case 1: return code >= '0' && code <= '8';
                default: return code >= '0' && code <= '9';
            }
        }

        /** Becomes the board of a text that has no fault. */
        void read(Sheets from, int k, int i, int n) {
            count = Math.min(n / CODES, MOST_LINES);
            for (int t = 0; t < count; t++) {
                int p = i + t * CODES;
                hard[t] = from.at(k, p) - '0';
                grain[t] = from.at(k, p + 1) - '0' - NO_GRAIN;
                closes[t] = from.at(k, p + 2) - '0';
            }
        }
    }

    /** The hand, and the fence that it saws along. */
    private static final class Hand {
        static final int MOST_LEAN = 9, MOST_STEERS = 9, MOST_LATE = 5, MOST_FENCE = 99;

        int lean = 0;
        int steers = 0;
        int late = 0;
        int rail = 0;

        void become(Hand other) {
            lean = other.lean;
            steers = other.steers;
            late = other.late;
            rail = other.rail;
        }
    }

    /** The latest cut that was made, as it is or on trial. */
    private static final class Cut {
        static final int MOST_HEADING = 99;

        int strokes = 0;
        int pinchedAt = NONE;
        int farthest = 0;
        private final int[] places = new int[Board.MOST_LINES];
        private final int[] headings = new int[Board.MOST_LINES];

        int placeBehind(int t) {
            return t >= 0 && t < strokes && t < Board.MOST_LINES ? places[t] : 0;
        }

        int headingBehind(int t) {
            return t >= 0 && t < strokes && t < Board.MOST_LINES ? headings[t] : 0;
        }

        void go(Saw saw, Board board, Hand hand) {
            strokes = 0;
            pinchedAt = NONE;
            farthest = 0;
            int push = saw.push();
            int kerf = saw.kerf();
            for (int t = 0; t < board.count && t < Board.MOST_LINES; t++) {
                if (board.closesOf(t) > kerf) {
                    pinchedAt = t;
                    return;
                }
                int by = 10 * board.hardOf(t);
                int pushed = by > 0 ? push / by : 0;
                int steered = hand.steers * placeBehind(t - 1 - hand.late) / 8;
                int turn = pushed + board.grainOf(t) + hand.lean - steered;
                stroke(turn, hand.rail);
            }
        }

        private void stroke(int turn, int rail) {
            int t = strokes;
            if (t < 0 || t >= Board.MOST_LINES) {
                return;
            }
            int heading = headingBehind(t - 1) + turn;
            heading = Math.max(-MOST_HEADING, Math.min(MOST_HEADING, heading));
            int place = placeBehind(t - 1) + heading;
            if (rail > 0 && Math.abs(place) > rail) {
                place = place > 0 ? rail : -rail;
                heading = 0;
            }
            places[t] = place;
            headings[t] = heading;
            strokes = t + 1;
            farthest = Math.max(farthest, Math.abs(place));
        }
    }

    /** Told flaws: what a size of a tooth would be. */
    private static final class Flaws {
        static final int MOST_FLAWS = 6, MOST_AT_ONCE = 2;

        int count = 0;
        private final int[] tooth = new int[MOST_FLAWS];
        private final int[] what = new int[MOST_FLAWS];
        private final int[] value = new int[MOST_FLAWS];

        boolean has(int q) {
            return q >= 0 && q < count && q < MOST_FLAWS;
        }

        int toothOf(int q) {
            return has(q) ? tooth[q] : 0;
        }

        int whatOf(int q) {
            return has(q) ? what[q] : 0;
        }

        int valueOf(int q) {
            return has(q) ? value[q] : 0;
        }

        int add(int k, int size, int v) {
            if (count < 0 || count >= MOST_FLAWS) {
                return FULL;
            }
            tooth[count] = k;
            what[count] = size;
            value[count] = v;
            count++;
            return count - 1;
        }

        void applyTo(Saw saw, int chosen) {
            for (int q = 0; q < count; q++) {
                if ((chosen >> q & 1) == 1) {
                    saw.change(toothOf(q), whatOf(q), valueOf(q));
                }
            }
        }
    }

    /** Where a cut was seen to be. */
    private static final class Readings {
        static final int MOST_READINGS = 8;

        int count = 0;
        private final int[] lines = new int[MOST_READINGS];
        private final int[] places = new int[MOST_READINGS];

        int add(int t, int place) {
            if (count < 0 || count >= MOST_READINGS) {
                return FULL;
            }
            lines[count] = t;
            places[count] = place;
            count++;
            return count - 1;
        }

        boolean areSo(Cut cut) {
            for (int r = 0; r < count && r < MOST_READINGS; r++) {
                int t = lines[r];
                if (t >= cut.strokes || cut.placeBehind(t) != places[r]) {
                    return false;
                }
            }
            return true;
        }
    }

    /** The best row of acts so far; acts are counted through here, four to a tooth. */
    private static final class Mending {
        static final int FILE = 0, STONE = 1, MORE_BEND = 2, BREAK = 3, ACTS = 4;
        static final int MOST_OFF = 9999;

        int length = NONE;
        int cost = NONE;
        int first = NONE;
        int second = NONE;

        static int costOf(int a) {
            switch (a % ACTS) {
                case FILE: return 2;
                case BREAK: return 4;
                default: return 1;
            }
        }

        private static int toldNumber(int a) {
            return 10 * (a / ACTS) + a % ACTS;
        }

        void forget() {
            length = NONE;
            cost = NONE;
            first = NONE;
            second = NONE;
        }

        boolean isCheaper(int newCost) {
            return cost == NONE || newCost < cost;
        }

        void keepNoAct() {
            length = 0;
            cost = 0;
        }

        void keepOneAct(int a) {
            length = 1;
            cost = costOf(a);
            first = toldNumber(a);
        }

        void keepTwoActs(int a, int b) {
            length = 2;
            cost = costOf(a) + costOf(b);
            first = toldNumber(a);
            second = toldNumber(b);
        }
    }

    /** A log. Which pieces there are follows from the set of cuts made, so costs go by sets. */
    private static final class Slabs {
        static final int LEAST_SLABS = 2, MOST_SLABS = 7, MOST_CUTS = 6, MOST_STRAIN = 9;
        /** Six cuts cost 378 at most: each of them no more than seven strains of nine. */
        static final int ABOVE_ANY_COST = 1000;

        private int cuts = 0;
        private final int[] strains = new int[MOST_SLABS];
        private final int[] leastFrom = new int[1 << MOST_CUTS];

        boolean read(Sheets from, int k, int i, int n) {
            cuts = 0;
            if (n < LEAST_SLABS || n > MOST_SLABS) {
                return false;
            }
            for (int s = 0; s < n; s++) {
                strains[s] = from.at(k, i + s);
                if (strains[s] < -MOST_STRAIN || strains[s] > MOST_STRAIN) {
                    return false;
                }
            }
            cuts = n - 1;
            return true;
        }

        /** For each set of cuts made: what all the others cost at the least. */
        void weighOrders() {
            int all = (1 << cuts) - 1;
            leastFrom[all] = 0;
            for (int made = all - 1; made >= 0; made--) {
                leastFrom[made] = ABOVE_ANY_COST;
                for (int c = 0; c < cuts; c++) {
                    if (isOpen(made, c)) {
                        leastFrom[made] = Math.min(leastFrom[made], costThrough(made, c));
                    }
                }
            }
        }

        int leastCost() {
            return leastFrom[0];
        }

        /** Takes the lowest cut that still leads to the least cost, again and again. */
        int cutOfOrder(int q) {
            int made = 0;
            for (int turn = 0; turn < cuts; turn++) {
                int c = lowestBest(made);
                if (turn == q) {
                    return c;
                }
                made |= 1 << c;
            }
            return NONE;
        }

        private int lowestBest(int made) {
            for (int c = 0; c < cuts; c++) {
                if (isOpen(made, c) && costThrough(made, c) == leastFrom[made]) {
                    return c;
                }
            }
            return 0;
        }

        private static boolean isOpen(int made, int c) {
            return (made >> c & 1) == 0;
        }

        private int costThrough(int made, int c) {
            return Math.abs(strainLeftOf(made, c) - strainRightOf(made, c))
                    + leastFrom[made | 1 << c];
        }

        private int strainLeftOf(int made, int c) {
            int sum = strains[c];
            for (int s = c - 1; s >= 0 && isOpen(made, s); s--) {
                sum += strains[s];
            }
            return sum;
        }

        private int strainRightOf(int made, int c) {
            int sum = strains[c + 1];
            for (int s = c + 2; s <= cuts && isOpen(made, s - 1); s++) {
                sum += strains[s];
            }
            return sum;
        }
    }
}
