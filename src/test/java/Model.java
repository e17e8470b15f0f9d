import java.util.ArrayList;
import java.util.Comparator;
import java.util.HashSet;
import java.util.List;
import java.util.Set;
import java.util.function.Predicate;
import java.util.regex.Matcher;
import java.util.regex.Pattern;

/**
 * The document once more, by other means than SawLine's: real rows of bytes, shorts and ints whose
 * faults the machine throws, kinds as classes, patterns for the texts, and every row, set and order
 * listed whole and sorted. Slow, and for the tests alone.
 */
final class Model {
    static final int UNKNOWN = -1, OUTSIDE = -2, STATE = -3, FULL = -4, NONE = -9;
    static final long LOST = Long.MIN_VALUE;

    private static final Pattern SAW =
            Pattern.compile("(?:[lr][0-9]{3}h?|c[0-9]{3})(?:;(?:[lr][0-9]{3}h?|c[0-9]{3})){0,7}");
    private static final Pattern BOARD = Pattern.compile("(?:[1-9][0-8][0-9]){1,24}");

    private static class Tooth implements Cloneable {
        int side, bend, height, edge, number;

        int kind() { return 0; }
        int takes() { return height * edge; }
        int pushes() { return 0; }
        int mark() { return 0; }
        int tells(Model m) { return plain(m); }
        final int plain(Model m) { m.note(1); return edge; }
        int jointed(Model m) { m.note(4); return number; }

        Tooth copy() {
            try {
                return (Tooth) clone();
            } catch (CloneNotSupportedException e) {
                throw new AssertionError(e);
            }
        }
    }

    private static class Bent extends Tooth {
        @Override int kind() { return 1; }
        @Override int pushes() { return takes() * bend * side; }
        @Override int mark() { return bend * side; }
        @Override int tells(Model m) { m.note(2); return super.tells(m) + 100; }
    }

    private static final class Hooked extends Bent {
        @Override int kind() { return 2; }
        @Override int takes() { return super.takes() > 0 ? super.takes() + 2 : 0; }
        @Override int tells(Model m) { m.note(3); return super.tells(m) + plain(m); }
        @Override int jointed(Model m) { m.note(5); return 70; }
    }

    private record Line(int hard, int grain, int closes) { }
    private record Flaw(int tooth, int what, int v) { }
    private record Reading(int line, int place) { }
    private record Stroke(int place, int heading) { }
    private record Row(int cost, List<Integer> acts) { }

    private List<Tooth> teeth = new ArrayList<>();
    private List<Line> lines = new ArrayList<>();
    private final List<Flaw> flaws = new ArrayList<>();
    private final List<Reading> readings = new ArrayList<>();
    private final Object[] sheets = new Object[4];
    private int lean, steers, late, fence, trace, fault;

    private void note(int n) { trace = 31 * trace + n; }

    private static boolean in(int v, int a, int b) { return a <= v && v <= b; }

    /** A call of which the machine's exceptions are the answers. */
    private interface Risky { long run(); }

    private static final class Size extends RuntimeException {
        private static final long serialVersionUID = 1L;
    }

    private long risk(Risky r, boolean isLong) {
        fault = 0;
        try {
            return r.run();
        } catch (NullPointerException e) {
            fault = 1;
        } catch (ClassCastException | ArrayStoreException e) {
            fault = 2;
        } catch (IndexOutOfBoundsException e) {
            fault = 3;
        } catch (Size e) {
            fault = 4;
        }
        return isLong ? LOST : -10 - fault;
    }

    private static int at(Object row, int lane, int i) {
        switch (lane) {
            case 0: return ((byte[]) row)[i];
            case 1: return ((short[]) row)[i];
            default: return ((int[]) row)[i];
        }
    }

    private static int length(Object row, int lane) {
        switch (lane) {
            case 0: return ((byte[]) row).length;
            case 1: return ((short[]) row).length;
            default: return ((int[]) row).length;
        }
    }

    private int[] take(int sheet, int lane, int i, int n) {
        Object row = sheets[sheet];
        int all = length(row, lane);
        if (n < 0) { throw new Size(); }
        java.util.Objects.checkFromIndexSize(i, n, all);
        int[] taken = new int[n];
        for (int p = 0; p < n; p++) { taken[p] = at(row, lane, i + p); }
        return taken;
    }

    private static String text(int[] codes) {
        StringBuilder b = new StringBuilder();
        for (int c : codes) { b.append(c > 0 && c < 128 ? (char) c : '?'); }
        return b.toString();
    }

    private static int firstFault(Pattern p, String s) {
        if (p.matcher(s).matches()) { return -1; }
        for (int n = 1; n <= s.length(); n++) {
            Matcher m = p.matcher(s.substring(0, n));
            if (!m.matches() && !m.hitEnd()) { return n - 1; }
        }
        return s.length();
    }

    long saw(int sheet, int lane, int i, int n) {
        if (!in(sheet, 0, 3)) { fault = 0; return UNKNOWN; }
        if (!in(lane, 0, 2)) { fault = 0; return OUTSIDE; }
        return risk(() -> {
            String s = text(take(sheet, lane, i, n));
            int f = firstFault(SAW, s);
            if (f >= 0) { return -100 - f; }
            teeth = new ArrayList<>();
            for (String one : s.split(";")) {
                Tooth t = one.length() == 5 ? new Hooked() : one.charAt(0) == 'c' ? new Tooth() : new Bent();
                t.side = "lcr".indexOf(one.charAt(0)) - 1;
                t.bend = one.charAt(1) - '0';
                t.height = one.charAt(2) - '0';
                t.edge = one.charAt(3) - '0';
                t.number = teeth.size();
                teeth.add(t);
            }
            flaws.clear();
            readings.clear();
            return teeth.size();
        }, false);
    }

    long ofTooth(int k, int what) {
        if (!in(k, 0, teeth.size() - 1)) { return UNKNOWN; }
        if (!in(what, 0, 6)) { return OUTSIDE; }
        Tooth t = teeth.get(k);
        return new int[] {t.kind(), t.side, t.bend, t.height, t.edge, t.takes(), t.pushes()}[what];
    }

    private static int change(Tooth t, int what, int v) {
        int was;
        if (what == 0) { was = t.bend; t.bend = v; }
        else if (what == 1) { was = t.height; t.height = v; }
        else { was = t.edge; t.edge = v; }
        return was;
    }

    long set(int k, int what, int v) {
        if (!in(k, 0, teeth.size() - 1)) { return UNKNOWN; }
        if (!in(what, 0, 2) || !in(v, 0, 9)) { return OUTSIDE; }
        return change(teeth.get(k), what, v);
    }

    private static int kerf(List<Tooth> saw) {
        int left = saw.stream().filter(t -> t.side < 0 && t.takes() > 0).mapToInt(t -> t.bend).max().orElse(0);
        int right = saw.stream().filter(t -> t.side > 0 && t.takes() > 0).mapToInt(t -> t.bend).max().orElse(0);
        return 1 + left + right;
    }

    private static int push(List<Tooth> saw) { return saw.stream().mapToInt(Tooth::pushes).sum(); }

    long ofSaw(int what) {
        if (!in(what, 0, 2)) { return OUTSIDE; }
        if (teeth.isEmpty()) { return STATE; }
        return what == 0 ? push(teeth) : what == 1 ? kerf(teeth) : teeth.stream().mapToInt(Tooth::takes).sum();
    }

    long board(int sheet, int lane, int i, int n) {
        if (!in(sheet, 0, 3)) { fault = 0; return UNKNOWN; }
        if (!in(lane, 0, 2)) { fault = 0; return OUTSIDE; }
        return risk(() -> {
            String s = text(take(sheet, lane, i, n));
            int f = firstFault(BOARD, s);
            if (f >= 0) { return -100 - f; }
            lines = new ArrayList<>();
            for (int p = 0; p < s.length(); p += 3) {
                lines.add(new Line(s.charAt(p) - '0', s.charAt(p + 1) - '4', s.charAt(p + 2) - '0'));
            }
            readings.clear();
            return lines.size();
        }, false);
    }

    long ofLine(int t, int what) {
        if (!in(t, 0, lines.size() - 1)) { return UNKNOWN; }
        if (!in(what, 0, 2)) { return OUTSIDE; }
        Line l = lines.get(t);
        return what == 0 ? l.hard : what == 1 ? l.grain : l.closes;
    }

    long hand(int lean, int steers, int late) {
        if (!in(lean, -9, 9) || !in(steers, 0, 9) || !in(late, 0, 5)) { return OUTSIDE; }
        this.lean = lean;
        this.steers = steers;
        this.late = late;
        return 1;
    }

    long ofHand(int what) { return what == 0 ? lean : what == 1 ? steers : what == 2 ? late : OUTSIDE; }

    long fence(int v) {
        if (!in(v, 0, 99)) { return OUTSIDE; }
        int was = fence;
        fence = v;
        return was;
    }

    private List<Stroke> cut(List<Tooth> saw, int lean, int steers) {
        List<Stroke> done = new ArrayList<>();
        if (saw.isEmpty()) { return done; }
        int place = 0;
        int heading = 0;
        for (int t = 0; t < lines.size(); t++) {
            Line l = lines.get(t);
            if (l.closes > kerf(saw)) { break; }
            int seen = t - 1 - late >= 0 ? done.get(t - 1 - late).place : 0;
            heading = heading + push(saw) / (10 * l.hard) + l.grain + lean - (steers * seen) / 8;
            if (heading > 99) { heading = 99; }
            if (heading < -99) { heading = -99; }
            place += heading;
            if (fence != 0 && place > fence) { place = fence; heading = 0; }
            if (fence != 0 && place < -fence) { place = -fence; heading = 0; }
            done.add(new Stroke(place, heading));
        }
        return done;
    }

    private List<Stroke> cut() { return cut(teeth, lean, steers); }

    private static int off(List<Stroke> cut) { return cut.stream().mapToInt(s -> Math.abs(s.place)).max().orElse(0); }

    private boolean lacks() { return teeth.isEmpty() || lines.isEmpty(); }

    long where(int t) { return in(t, 0, cut().size() - 1) ? cut().get(t).place : LOST; }

    long heading(int t) { return in(t, 0, cut().size() - 1) ? cut().get(t).heading : LOST; }

    long off() { return lacks() ? STATE : off(cut()); }

    long pinched() { return lacks() ? STATE : cut().size() < lines.size() ? cut().size() : NONE; }

    long marks(int t) {
        if (!in(t, 0, lines.size() - 1)) { return UNKNOWN; }
        if (t >= cut().size()) { return STATE; }
        Set<Integer> places = new HashSet<>();
        for (Tooth x : teeth) {
            if (x.takes() > 0) { places.add(cut().get(t).place + x.mark()); }
        }
        return places.size();
    }

    long which(int t, int p) {
        if (!in(t, 0, lines.size() - 1)) { return UNKNOWN; }
        if (t >= cut().size()) { return STATE; }
        int set = 0;
        for (Tooth x : teeth) {
            if (x.takes() > 0 && (long) cut().get(t).place + x.mark() == p) { set += 1 << x.number; }
        }
        return set;
    }

    long straightest(int what) {
        if (!in(what, 0, 3)) { return OUTSIDE; }
        if (lacks()) { return STATE; }
        boolean byLean = what % 2 == 0;
        List<int[]> all = new ArrayList<>();
        for (int v = byLean ? -9 : 0; v <= 9; v++) {
            all.add(new int[] {off(byLean ? cut(teeth, v, steers) : cut(teeth, lean, v)), Math.abs(v), v});
        }
        all.sort(Comparator.<int[]>comparingInt(a -> a[0]).thenComparingInt(a -> a[1]).thenComparingInt(a -> a[2]));
        return what < 2 ? all.get(0)[2] : all.get(0)[0];
    }

    long flaw(int k, int what, int v) {
        if (!in(k, 0, teeth.size() - 1)) { return UNKNOWN; }
        if (!in(what, 0, 2) || !in(v, 0, 9)) { return OUTSIDE; }
        if (flaws.size() == 6) { return FULL; }
        flaws.add(new Flaw(k, what, v));
        return flaws.size() - 1;
    }

    long ofFlaw(int q, int what) {
        if (!in(q, 0, flaws.size() - 1)) { return UNKNOWN; }
        if (!in(what, 0, 2)) { return OUTSIDE; }
        Flaw f = flaws.get(q);
        return what == 0 ? f.tooth : what == 1 ? f.what : f.v;
    }

    long reading(int t, int place) {
        if (!in(t, 0, lines.size() - 1)) { return UNKNOWN; }
        if (readings.size() == 8) { return FULL; }
        readings.add(new Reading(t, place));
        return readings.size() - 1;
    }

    long back(int k) {
        if (!in(k, 0, readings.size())) { return OUTSIDE; }
        readings.subList(readings.size() - k, readings.size()).clear();
        return readings.size();
    }

    private List<Tooth> copyOfTeeth(List<Tooth> from) {
        List<Tooth> c = new ArrayList<>();
        for (Tooth t : from) { c.add(t.copy()); }
        return c;
    }

    private boolean fits(int a, int b) {
        List<Tooth> saw = copyOfTeeth(teeth);
        for (int q : new int[] {a, b}) {
            if (q >= 0) { change(saw.get(flaws.get(q).tooth), flaws.get(q).what, flaws.get(q).v); }
        }
        List<Stroke> c = cut(saw, lean, steers);
        Predicate<Reading> so = r -> r.line < c.size() && c.get(r.line).place == r.place;
        return readings.stream().allMatch(so);
    }

    private List<Integer> fitting() {
        List<Integer> sets = new ArrayList<>();
        if (fits(-1, -1)) { sets.add(0); }
        for (int a = 0; a < flaws.size(); a++) {
            if (fits(a, -1)) { sets.add(1 << a); }
            for (int b = a + 1; b < flaws.size(); b++) {
                if (fits(a, b)) { sets.add(1 << a | 1 << b); }
            }
        }
        sets.sort(Comparator.<Integer>comparingInt(Integer::bitCount).thenComparingInt(x -> x));
        return sets;
    }

    long likely(int what) {
        if (!in(what, 0, 1)) { return OUTSIDE; }
        if (lacks()) { return STATE; }
        List<Integer> sets = fitting();
        return what == 0 ? sets.size() : sets.isEmpty() ? NONE : sets.get(0);
    }

    long each(int q) {
        if (!in(q, 0, flaws.size() - 1)) { return UNKNOWN; }
        if (lacks()) { return STATE; }
        return fitting().stream().filter(s -> (s & 1 << q) != 0).count();
    }

    private static boolean acted(Tooth t, int act) {
        if (act == 0) {
            if (t.edge + 2 > 9 || t.height - 1 < 0) { return false; }
            t.edge += 2;
            t.height -= 1;
            return true;
        }
        if (act == 3) {
            boolean any = t.height > 0;
            t.height = 0;
            return any;
        }
        int bend = t.bend + (act == 1 ? -1 : 1);
        if (!(t instanceof Bent) || !in(bend, 0, 9)) { return false; }
        t.bend = bend;
        return true;
    }

    long act(int k, int act) {
        if (!in(k, 0, teeth.size() - 1)) { return UNKNOWN; }
        if (!in(act, 0, 3)) { return OUTSIDE; }
        return acted(teeth.get(k), act) ? 1 : 0;
    }

    private void listRows(List<Tooth> saw, Row so, int m, List<Row> found) {
        List<Stroke> c = cut(saw, lean, steers);
        if (c.size() == lines.size() && off(c) <= m) { found.add(so); }
        if (so.acts.size() == 2) { return; }
        for (int k = 0; k < saw.size(); k++) {
            for (int act = 0; act < 4; act++) {
                List<Tooth> next = copyOfTeeth(saw);
                if (acted(next.get(k), act)) {
                    List<Integer> acts = new ArrayList<>(so.acts);
                    acts.add(10 * k + act);
                    listRows(next, new Row(so.cost + new int[] {2, 1, 1, 4}[act], acts), m, found);
                }
            }
        }
    }

    private static int compareRows(Row a, Row b) {
        if (a.cost != b.cost) { return Integer.compare(a.cost, b.cost); }
        if (a.acts.size() != b.acts.size()) { return Integer.compare(a.acts.size(), b.acts.size()); }
        return compareLists(a.acts, b.acts);
    }

    private static int compareLists(List<Integer> a, List<Integer> b) {
        for (int p = 0; p < a.size(); p++) {
            int c = Integer.compare(a.get(p), b.get(p));
            if (c != 0) { return c; }
        }
        return 0;
    }

    long mend(int m, int q) {
        if (!in(m, 0, 9999)) { return OUTSIDE; }
        if (!in(q, -2, 1)) { return UNKNOWN; }
        if (lacks()) { return STATE; }
        List<Row> found = new ArrayList<>();
        listRows(teeth, new Row(0, new ArrayList<>()), m, found);
        if (found.isEmpty()) { return NONE; }
        Row best = found.stream().min(Model::compareRows).get();
        if (q == -1) { return best.cost; }
        if (q == -2) { return best.acts.size(); }
        return q < best.acts.size() ? best.acts.get(q) : NONE;
    }

    /** Pieces are lists of slabs that still hang together; every order of cuts is gone through. */
    private void listOrders(int[] strains, List<Integer> order, int cost, List<Row> found) {
        if (order.size() == strains.length - 1) { found.add(new Row(cost, new ArrayList<>(order))); }
        for (int c = 0; c + 1 < strains.length; c++) {
            if (order.contains(c)) { continue; }
            int from = c;
            while (from > 0 && !order.contains(from - 1)) { from--; }
            int to = c + 1;
            while (to < strains.length - 1 && !order.contains(to)) { to++; }
            int differ = 0;
            for (int s = from; s <= to; s++) { differ += s <= c ? strains[s] : -strains[s]; }
            order.add(c);
            listOrders(strains, order, cost + Math.abs(differ), found);
            order.remove(order.size() - 1);
        }
    }

    long log(int sheet, int lane, int i, int n, int q) {
        if (!in(sheet, 0, 3)) { fault = 0; return UNKNOWN; }
        if (!in(lane, 0, 2)) { fault = 0; return OUTSIDE; }
        return risk(() -> {
            int[] strains = take(sheet, lane, i, n);
            if (!in(n, 2, 7)) { return OUTSIDE; }
            for (int s : strains) {
                if (!in(s, -9, 9)) { return OUTSIDE; }
            }
            if (!in(q, -1, 5)) { return UNKNOWN; }
            List<Row> found = new ArrayList<>();
            listOrders(strains, new ArrayList<>(), 0, found);
            Row best = found.stream().min(Model::compareRows).get();
            return q == -1 ? best.cost : q < best.acts.size() ? best.acts.get(q) : NONE;
        }, false);
    }

    long sheet(int k, int lane, int n) {
        fault = 0;
        if (!in(k, 0, 3)) { return UNKNOWN; }
        if (!in(lane, 0, 2) || n > 80) { return OUTSIDE; }
        return risk(() -> {
            if (n < 0) { throw new Size(); }
            sheets[k] = lane == 0 ? new byte[n] : lane == 1 ? new short[n] : new int[n];
            return 1;
        }, false);
    }

    long lose(int k) {
        if (!in(k, 0, 3)) { return UNKNOWN; }
        int had = sheets[k] == null ? 0 : 1;
        sheets[k] = null;
        return had;
    }

    long put(int k, int i, int v) {
        fault = 0;
        if (!in(k, 0, 3)) { return UNKNOWN; }
        return risk(() -> {
            if (sheets[k] instanceof byte[] b) { b[i] = (byte) v; }
            else if (sheets[k] instanceof short[] s) { s[i] = (short) v; }
            else { ((int[]) sheets[k])[i] = v; }
            return 1;
        }, false);
    }

    long cell(int k, int i, int lane) {
        fault = 0;
        if (!in(k, 0, 3) || !in(lane, 0, 2)) { return LOST; }
        return risk(() -> at(sheets[k], lane, i), true);
    }

    long copy(int k, int i, int other, int j, int n) {
        fault = 0;
        if (!in(k, 0, 3) || !in(other, 0, 3)) { return UNKNOWN; }
        return risk(() -> {
            System.arraycopy(sheets[k], i, sheets[other], j, n);
            return n;
        }, false);
    }

    long tell(int k) { return in(k, 0, teeth.size() - 1) ? teeth.get(k).tells(this) : UNKNOWN; }

    long joint(int k) { return in(k, 0, teeth.size() - 1) ? teeth.get(k).jointed(this) : UNKNOWN; }

    long as(int k, int kind) {
        fault = 0;
        if (!in(k, 0, teeth.size() - 1)) { return UNKNOWN; }
        if (!in(kind, 0, 2)) { return OUTSIDE; }
        return risk(() -> {
            Tooth t = teeth.get(k);
            Tooth cast = kind == 2 ? (Hooked) t : kind == 1 ? (Bent) t : t;
            return cast == t ? 1 : 0;
        }, false);
    }

    long trace() { return trace; }

    long fault() { return fault; }

    long many(int what) {
        switch (what) {
            case 0: return teeth.size();
            case 1: return lines.size();
            case 2: return flaws.size();
            case 3: return readings.size();
            case 4: return cut().size();
            default: return OUTSIDE;
        }
    }
}
