import java.util.ArrayList;
import java.util.Collections;
import java.util.List;
import java.util.regex.Matcher;
import java.util.regex.Pattern;

/**
 * The document once more, word by word and by other ways than the program: fractions of any size,
 * whole states kept for what may be undone, a text judged by patterns. Slow, and only for tests.
 */
public final class Oracle {
    private static final int NB = -1;
    private static final int OT = -2;
    private static final int ST = -3;
    private static final int BE = -4;
    private static final int RO = -6;

    /** What an image keeps. */
    static final class State {
        int[] w;
        int[][] u;
        int[][] v;
        int[][] u2;
        int ties;
        List<int[][]> looks = new ArrayList<>();
        List<int[]> tests = new ArrayList<>();
        List<int[]> thoughts = new ArrayList<>();

        State copy() {
            State s = new State();
            s.w = w.clone();
            s.u = u;
            s.v = v;
            s.u2 = new int[u2.length][];
            for (int a = 0; a < u2.length; a++) {
                s.u2[a] = u2[a].clone();
            }
            s.ties = ties;
            s.looks = new ArrayList<>(looks);
            s.tests = new ArrayList<>(tests);
            s.thoughts = new ArrayList<>(thoughts);
            return s;
        }

        int truths() {
            return w.length;
        }

        int acts() {
            return u.length;
        }
    }

    private StringBuilder text = new StringBuilder();
    private State s;
    private State image;
    private List<State> past = new ArrayList<>();
    private List<Integer> row = new ArrayList<>();
    private final int[] refused = new int[7];

    private int no(int why) {
        refused[-why]++;
        return why;
    }

    private long far(int why) {
        return no(why) - 4000000000000000000L;
    }

    private static boolean in(int x, int low, int high) {
        return x >= low && x <= high;
    }

    // ---- I

    public int feed(int n, long bytes) {
        if (n < 1) return no(BE);
        if (n > 8 || text.length() + n > 90) return no(RO);
        for (int i = 0; i < n; i++) {
            text.append((char) (bytes & 255));
            bytes >>>= 8;
        }
        return text.length();
    }

    private static Pattern shape(int truths) {
        String number = "(?:0|-?[1-9][0-9]?)";
        String pair = number + "/" + number;
        StringBuilder act = new StringBuilder("a" + pair);
        for (int t = 1; t < truths; t++) act.append(",").append(pair);
        return Pattern.compile("(?:t[1-9][0-9]?;){" + truths + "}(?:" + act + ";){1,6}");
    }

    private static final Pattern[] SHAPES = {shape(1), shape(2), shape(3), shape(4)};

    public int read() {
        String all = text.toString();
        text = new StringBuilder();
        for (Pattern p : SHAPES) {
            if (p.matcher(all).matches()) {
                take(all);
                return 10 * s.truths() + s.acts();
            }
        }
        int place = 0;
        for (int k = 0; k <= all.length(); k++) {
            boolean stands = false;
            for (Pattern p : SHAPES) {
                Matcher m = p.matcher(all.substring(0, k));
                stands |= m.matches() || m.hitEnd();
            }
            if (stands) place = k;
        }
        return -20 - place;
    }

    private void take(String all) {
        List<int[]> us = new ArrayList<>();
        List<int[]> vs = new ArrayList<>();
        List<Integer> ws = new ArrayList<>();
        for (String piece : all.split(";")) {
            if (piece.charAt(0) == 't') {
                ws.add(Integer.parseInt(piece.substring(1)));
                continue;
            }
            String[] pairs = piece.substring(1).split(",");
            int[] u = new int[pairs.length];
            int[] v = new int[pairs.length];
            for (int t = 0; t < pairs.length; t++) {
                String[] two = pairs[t].split("/");
                u[t] = Integer.parseInt(two[0]);
                v[t] = Integer.parseInt(two[1]);
            }
            us.add(u);
            vs.add(v);
        }
        s = new State();
        s.w = ws.stream().mapToInt(Integer::intValue).toArray();
        s.u = us.toArray(new int[0][]);
        s.v = vs.toArray(new int[0][]);
        s.u2 = new int[s.u.length][];
        for (int a = 0; a < s.u.length; a++) s.u2[a] = s.u[a].clone();
        past.clear();
        row.clear();
    }

    public int weight(int truth) {
        if (s == null) return no(ST);
        if (!in(truth, 0, s.truths() - 1)) return no(NB);
        return s.w[truth];
    }

    public int gets(int act, int truth, int who) {
        if (!in(who, 0, 2)) return no(OT) - 1000;
        if (s == null) return no(ST) - 1000;
        if (!in(act, 0, s.acts() - 1) || !in(truth, 0, s.truths() - 1)) return no(NB) - 1000;
        return (who == 0 ? s.u : who == 1 ? s.v : s.u2)[act][truth];
    }

    private void remember() {
        past.add(s.copy());
        if (past.size() > 30) past.remove(0);
    }

    public int second(int act, int truth, int v) {
        if (s == null) return no(ST);
        if (!in(act, 0, s.acts() - 1) || !in(truth, 0, s.truths() - 1)) return no(NB);
        if (v < -99) return no(BE);
        if (v > 99) return no(RO);
        remember();
        s.u2[act][truth] = v;
        return 1;
    }

    public int ties(int v) {
        if (s == null) return no(ST);
        if (!in(v, 0, 1)) return no(OT);
        remember();
        int was = s.ties;
        s.ties = v;
        return was;
    }

    private static Q dot(Q[] w, int[] pay) {
        Q sum = Q.ZERO;
        for (int t = 0; t < w.length; t++) sum = sum.plus(w[t].times(Q.of(pay[t])));
        return sum;
    }

    /** Null if all weights are 0. */
    private Integer act(Q[] w, int[][] u) {
        Q all = Q.ZERO;
        for (Q one : w) all = all.plus(one);
        if (all.sign() == 0) return null;
        List<Integer> left = new ArrayList<>();
        Q most = null;
        for (int a = 0; a < s.acts(); a++) {
            Q mine = dot(w, u[a]);
            if (most == null || mine.compareTo(most) > 0) {
                most = mine;
                left.clear();
            }
            if (mine.same(most)) left.add(a);
        }
        Q pick = null;
        for (int a : left) {
            Q mine = dot(w, s.v[a]);
            if (pick == null || (s.ties == 0 ? mine.compareTo(pick) > 0 : mine.compareTo(pick) < 0)) pick = mine;
        }
        for (int a : left) if (dot(w, s.v[a]).same(pick)) return a;
        return null;
    }

    public int done(int a, int b, int c, int d) {
        if (s == null) return no(ST);
        int[] all = {a, b, c, d};
        Q[] w = new Q[s.truths()];
        boolean zero = true;
        boolean low = false;
        boolean high = false;
        for (int t = 0; t < w.length; t++) {
            w[t] = Q.of(all[t]);
            zero &= all[t] == 0;
            low |= all[t] < 0;
            high |= all[t] > 9999;
        }
        if (zero) return no(ST);
        if (low) return no(BE);
        if (high) return no(RO);
        return act(w, s.u);
    }

    // ---- II

    public int put(int v) {
        if (v < 0) return no(BE);
        if (v > 60 || row.size() == 24) return no(RO);
        row.add(v);
        return row.size();
    }

    private int keep(int[][] look) {
        remember();
        s.looks.add(look);
        return s.looks.size() - 1;
    }

    public int look(int n) {
        if (s == null) return no(ST);
        if (n < 1) return no(BE);
        if (n > 6 || s.looks.size() == 12) return no(RO);
        if (row.size() != n * s.truths()) return no(ST);
        int[][] look = new int[s.truths()][n];
        for (int t = 0; t < s.truths(); t++) {
            int sum = 0;
            for (int k = 0; k < n; k++) sum += look[t][k] = row.get(t * n + k);
            if (sum != 60) return no(ST);
        }
        row.clear();
        return keep(look);
    }

    public int plain(int what) {
        if (!in(what, 0, 1)) return no(OT);
        if (s == null) return no(ST);
        if (s.looks.size() == 12) return no(RO);
        int[][] look = new int[s.truths()][what == 0 ? 1 : s.truths()];
        for (int t = 0; t < s.truths(); t++) look[t][what == 0 ? 0 : t] = 60;
        return keep(look);
    }

    public int bar(int k) {
        if (s == null) return no(ST);
        if (k < 1) return no(BE);
        if (k >= s.truths() || s.looks.size() == 12) return no(RO);
        int[][] look = new int[s.truths()][2];
        for (int t = 0; t < s.truths(); t++) look[t][t >= k ? 1 : 0] = 60;
        return keep(look);
    }

    private boolean isLook(int look) {
        return in(look, 0, s.looks.size() - 1);
    }

    private boolean isSign(int look, int sign) {
        return isLook(look) && in(sign, 0, s.looks.get(look)[0].length - 1);
    }

    public int mix(int a, int b, int m) {
        if (s == null) return no(ST);
        if (!isLook(a) || !isLook(b)) return no(NB);
        if (m < 1) return no(BE);
        int[][] one = s.looks.get(a);
        int[][] two = s.looks.get(b);
        int n = one[0].length;
        int k = two[0].length;
        if (m > 11 || n + k > 6 || s.looks.size() == 12) return no(RO);
        int[][] look = new int[s.truths()][n + k];
        for (int t = 0; t < s.truths(); t++) {
            for (int i = 0; i < n + k; i++) {
                Q part = i < n ? Q.of(one[t][i] * m, 12) : Q.of(two[t][i - n] * (12 - m), 12);
                if (part.part(1) != 1) return no(ST);
                look[t][i] = (int) part.part(0);
            }
        }
        return keep(look);
    }

    public int meld(int look, int a, int b) {
        if (s == null) return no(ST);
        if (!isSign(look, a) || !isSign(look, b) || a == b) return no(NB);
        if (s.looks.size() == 12) return no(RO);
        int[][] made = new int[s.truths()][];
        for (int t = 0; t < s.truths(); t++) {
            List<Integer> parts = new ArrayList<>();
            for (int part : s.looks.get(look)[t]) parts.add(part);
            int gone = parts.remove(Math.max(a, b));
            parts.set(Math.min(a, b), parts.get(Math.min(a, b)) + gone);
            made[t] = parts.stream().mapToInt(Integer::intValue).toArray();
        }
        return keep(made);
    }

    public int signs(int look) {
        if (s == null) return no(ST);
        if (!isLook(look)) return no(NB);
        return s.looks.get(look)[0].length;
    }

    public int parts(int look, int truth, int sign) {
        if (s == null) return no(ST);
        if (!isSign(look, sign) || !in(truth, 0, s.truths() - 1)) return no(NB);
        return s.looks.get(look)[truth][sign];
    }

    private Q[] before() {
        long all = 0;
        for (int w : s.w) all += w;
        Q[] q = new Q[s.truths()];
        for (int t = 0; t < q.length; t++) q[t] = Q.of(s.w[t], all);
        return q;
    }

    private Q[] after(Q[] w, int[][] look, int sign) {
        Q[] q = new Q[w.length];
        for (int t = 0; t < w.length; t++) q[t] = w[t].times(Q.of(look[t][sign], 60));
        return q;
    }

    private static Q mass(Q[] w) {
        Q sum = Q.ZERO;
        for (Q one : w) sum = sum.plus(one);
        return sum;
    }

    public int leaves(int look, int sign, int truth) {
        if (s == null) return no(ST);
        if (!isSign(look, sign) || !in(truth, 0, s.truths() - 1)) return no(NB);
        long shared = 0;
        long[] w = new long[s.truths()];
        for (int t = 0; t < w.length; t++) w[t] = (long) s.w[t] * s.looks.get(look)[t][sign];
        for (long d = 1; d <= 99 * 60; d++) {
            boolean divides = mass(before()) != null;
            long sum = 0;
            for (long one : w) {
                divides &= one % d == 0;
                sum += one;
            }
            if (sum == 0) return -9;
            if (divides) shared = d;
        }
        return (int) (w[truth] / shared);
    }

    public int does(int look, int sign) {
        if (s == null) return no(ST);
        if (!isSign(look, sign)) return no(NB);
        Integer a = act(after(before(), s.looks.get(look), sign), s.u);
        return a == null ? -9 : a;
    }

    private Q worthOf(List<int[][]> looks, int[][] u, int[][] pay) {
        List<Q[]> ends = new ArrayList<>();
        ends.add(before());
        for (int[][] look : looks) {
            List<Q[]> next = new ArrayList<>();
            for (Q[] w : ends) for (int k = 0; k < look[0].length; k++) next.add(after(w, look, k));
            ends = next;
        }
        Q sum = Q.ZERO;
        for (Q[] w : ends) {
            Integer a = act(w, u);
            if (a != null) sum = sum.plus(dot(w, pay[a]));
        }
        return sum;
    }

    private Q worthOne(int[][] look, int[][] u, int[][] pay) {
        List<int[][]> looks = new ArrayList<>();
        looks.add(look);
        return worthOf(looks, u, pay);
    }

    public long worth(int look, boolean judge, int part) {
        if (!in(part, 0, 1)) return far(OT);
        if (s == null) return far(ST);
        if (!isLook(look)) return far(NB);
        return worthOne(s.looks.get(look), s.u, judge ? s.u : s.v).part(part);
    }

    public long harm(int look, int part) {
        if (!in(part, 0, 1)) return far(OT);
        if (s == null) return far(ST);
        if (!isLook(look)) return far(NB);
        return worthOf(List.of(), s.u, s.u).minus(worthOne(s.looks.get(look), s.u, s.u)).part(part);
    }

    public int think(int a, int b, int c, int d, int share) {
        if (s == null) return no(ST);
        int[] all = {a, b, c, d, share};
        boolean low = share < 1 || (a == 0 && b == 0 && c == 0 && d == 0);
        boolean high = share > 99 || s.thoughts.size() == 4;
        for (int t = 0; t < 4; t++) {
            low |= all[t] < 0;
            high |= all[t] > (t < s.truths() ? 99 : 0);
        }
        if (low) return no(BE);
        if (high) return no(RO);
        s.thoughts.add(all);
        return s.thoughts.size();
    }

    public int forget() {
        if (s == null) return 0;
        int n = s.thoughts.size();
        s.thoughts.clear();
        return n;
    }

    private Q partOf(int[] thought, int truth) {
        return Q.of(thought[truth], thought[0] + thought[1] + thought[2] + thought[3]);
    }

    private int off() {
        Q all = Q.ZERO;
        for (int[] th : s.thoughts) all = all.plus(Q.of(th[4]));
        for (int t = 0; t < s.truths(); t++) {
            Q sum = Q.ZERO;
            for (int[] th : s.thoughts) sum = sum.plus(Q.of(th[4]).times(partOf(th, t)));
            if (!sum.same(before()[t].times(all))) return t;
        }
        return -9;
    }

    public int made() {
        if (s == null || s.thoughts.isEmpty()) return no(ST);
        return off();
    }

    public long chance(int thought, int truth, int part) {
        if (!in(part, 0, 1)) return far(OT);
        if (s == null || s.thoughts.isEmpty() || off() != -9) return far(ST);
        if (!in(thought, 0, s.thoughts.size() - 1) || !in(truth, 0, s.truths() - 1)) return far(NB);
        Q all = Q.ZERO;
        for (int[] th : s.thoughts) all = all.plus(Q.of(th[4]));
        int[] th = s.thoughts.get(thought);
        return Q.of(th[4]).times(partOf(th, truth)).by(all).by(before()[truth]).part(part);
    }

    // ---- III

    private static Q at(int[] pay, Q x) {
        return Q.ONE.minus(x).times(Q.of(pay[0])).plus(x.times(Q.of(pay[1])));
    }

    private int actAt(Q x) {
        return act(new Q[] {Q.ONE.minus(x), x}, s.u);
    }

    /** What is done a hair below (way -1) or above (way 1) of x. */
    private int actBeside(Q x, int way) {
        int found = 0;
        for (int a = 1; a < s.acts(); a++) {
            int c = beside(s.u[a], s.u[found], x, way);
            if (c == 0) c = beside(s.v[a], s.v[found], x, way) * (s.ties == 0 ? 1 : -1);
            if (c > 0) found = a;
        }
        return found;
    }

    private static int beside(int[] one, int[] two, Q x, int way) {
        int c = at(one, x).compareTo(at(two, x));
        return c != 0 ? c : way * Integer.compare(one[1] - one[0], two[1] - two[0]);
    }

    private List<Q> edgeList() {
        List<Q> all = new ArrayList<>();
        for (int a = 0; a < s.acts(); a++) {
            for (int b = 0; b < s.acts(); b++) {
                for (int[][] pay : new int[][][] {s.u, s.v}) {
                    int rise = (pay[b][0] - pay[a][0]) - (pay[b][1] - pay[a][1]);
                    if (rise != 0) all.add(Q.of(pay[b][0] - pay[a][0], rise));
                }
            }
        }
        List<Q> edges = new ArrayList<>(List.of(Q.ZERO, Q.ONE));
        for (Q x : all) {
            if (x.sign() <= 0 || x.compareTo(Q.ONE) >= 0) continue;
            boolean known = false;
            for (Q e : edges) known |= e.same(x);
            boolean same = actAt(x) == actBeside(x, -1) && actAt(x) == actBeside(x, 1);
            if (!known && !same) edges.add(x);
        }
        Collections.sort(edges);
        return edges;
    }

    private Q valueAt(Q x) {
        return at(s.v[actAt(x)], x);
    }

    private boolean two() {
        return s != null && s.truths() == 2;
    }

    public int edges() {
        return two() ? edgeList().size() : no(ST);
    }

    public long edge(int i, int part) {
        if (!in(part, 0, 1)) return far(OT);
        if (!two()) return far(ST);
        List<Q> e = edgeList();
        return in(i, 0, e.size() - 1) ? e.get(i).part(part) : far(NB);
    }

    public long value(int i, int part) {
        if (!in(part, 0, 1)) return far(OT);
        if (!two()) return far(ST);
        List<Q> e = edgeList();
        if (!in(i, -1, e.size() - 1)) return far(NB);
        return valueAt(i == -1 ? before()[1] : e.get(i)).part(part);
    }

    private Q lineAt(Q l, Q vl, Q r, Q vr, Q x) {
        return vl.plus(vr.minus(vl).times(x.minus(l)).by(r.minus(l)));
    }

    /** l, r, top, gain. */
    private Q[] bestLook() {
        Q b = before()[1];
        List<Q> points = edgeList();
        points.add(b);
        Q[] found = null;
        for (Q l : points) {
            for (Q r : points) {
                if (l.compareTo(b) > 0 || r.compareTo(b) < 0) continue;
                boolean both = l.same(b) && r.same(b);
                if (!both && l.compareTo(r) >= 0) continue;
                Q h = both ? valueAt(b) : lineAt(l, valueAt(l), r, valueAt(r), b);
                int c = found == null ? 1 : h.compareTo(found[2]);
                if (c == 0) c = l.compareTo(found[0]);
                if (c == 0) c = found[1].compareTo(r);
                if (c > 0) found = new Q[] {l, r, h, h.minus(valueAt(b))};
            }
        }
        return found;
    }

    public long best(int what, int part) {
        if (!in(what, 0, 3) || !in(part, 0, 1)) return far(OT);
        if (!two()) return far(ST);
        return bestLook()[what].part(part);
    }

    public int corners() {
        if (!two()) return no(ST);
        List<Q> e = edgeList();
        int bits = 1 | 1 << (e.size() - 1);
        for (int i = 1; i + 1 < e.size(); i++) {
            boolean corner = true;
            for (Q l : e) {
                for (Q r : e) {
                    if (l.compareTo(e.get(i)) < 0 && r.compareTo(e.get(i)) > 0) {
                        Q h = lineAt(l, valueAt(l), r, valueAt(r), e.get(i));
                        corner &= h.compareTo(valueAt(e.get(i))) < 0;
                    }
                }
            }
            if (corner) bits |= 1 << i;
        }
        return bits;
    }

    public int prove(int a, int b, int c, int d) {
        if (!two()) return no(ST);
        if (a < -9999999 || c < -9999999 || b < 1 || d < 1) return no(BE);
        if (a > 9999999 || c > 9999999 || b > 99999 || d > 99999) return no(RO);
        Q none = Q.of(a, b);
        Q all = Q.of(c, d);
        List<Q> e = edgeList();
        for (int i = 0; i < e.size(); i++) {
            if (lineAt(Q.ZERO, none, Q.ONE, all, e.get(i)).compareTo(valueAt(e.get(i))) < 0) return i;
        }
        Q x = before()[1];
        Q price = lineAt(Q.ZERO, none, Q.ONE, all, x);
        if (price.compareTo(valueAt(x)) < 0) return 100;
        return price.same(bestLook()[2]) ? -9 : 101;
    }

    // ---- IV

    public int test(int look, int cost) {
        if (s == null) return no(ST);
        if (!isLook(look)) return no(NB);
        if (cost < 0) return no(BE);
        if (cost > 99 || s.tests.size() == 6) return no(RO);
        remember();
        s.tests.add(new int[] {look, cost});
        return s.tests.size() - 1;
    }

    private boolean others(int set) {
        for (int i = 0; i < 32; i++) if ((set >>> i & 1) == 1 && i >= s.tests.size()) return true;
        return false;
    }

    private int[][] lookOf(int test) {
        return s.looks.get(s.tests.get(test)[0]);
    }

    private Q brings(int set) {
        List<int[][]> looks = new ArrayList<>();
        for (int i = 0; i < s.tests.size(); i++) if ((set >> i & 1) == 1) looks.add(lookOf(i));
        return worthOf(looks, s.u, s.v);
    }

    private int cost(int set) {
        int sum = 0;
        for (int i = 0; i < s.tests.size(); i++) if ((set >> i & 1) == 1) sum += s.tests.get(i)[1];
        return sum;
    }

    public long set(int set, int part) {
        if (!in(part, 0, 1)) return far(OT);
        if (s == null) return far(ST);
        if (others(set)) return far(NB);
        if (Integer.bitCount(set) > 3) return far(RO);
        return brings(set).minus(Q.of(cost(set))).part(part);
    }

    private List<Integer> sets() {
        List<Integer> all = new ArrayList<>();
        for (int size = 0; size <= 3; size++) {
            for (int set = 0; set < 64; set++) {
                if (Integer.bitCount(set) == size && !others(set)) all.add(set);
            }
        }
        return all;
    }

    public int chosen() {
        if (s == null) return no(ST);
        int found = 0;
        Q most = null;
        for (int set : sets()) {
            Q worth = brings(set).minus(Q.of(cost(set)));
            if (most == null || worth.compareTo(most) > 0) {
                most = worth;
                found = set;
            }
        }
        return found;
    }

    public int enough(int above, int below) {
        if (s == null) return no(ST);
        if (above < -9999 || below < 1) return no(BE);
        if (above > 9999 || below > 9999) return no(RO);
        int found = -9;
        for (int set : sets()) {
            if (brings(set).compareTo(Q.of(above, below)) >= 0 && (found == -9 || cost(set) < cost(found))) {
                found = set;
            }
        }
        return found;
    }

    public long hear(int a, int b, int part) {
        if (!in(part, 0, 1)) return far(OT);
        if (s == null) return far(ST);
        if (!isLook(a) || (b != -1 && !isLook(b))) return far(NB);
        Q one = worthOne(s.looks.get(a), s.u, s.v);
        return one.plus(worthOne(s.looks.get(b == -1 ? a : b), s.u2, s.v)).part(part);
    }

    public long knows(int look, int own, boolean judge, int part) {
        if (!in(part, 0, 1)) return far(OT);
        if (s == null) return far(ST);
        if (!isLook(look) || !isLook(own)) return far(NB);
        return worthOf(List.of(s.looks.get(own), s.looks.get(look)), s.u, judge ? s.u : s.v).part(part);
    }

    private List<Integer> choices(int set) {
        List<Integer> all = new ArrayList<>(List.of(0));
        for (int i = 0; i < 6; i++) if ((set >> i & 1) == 1) all.add(i + 1);
        return all;
    }

    private Q rival(int i, int j) {
        List<int[][]> looks = new ArrayList<>();
        if (j > 0) looks.add(lookOf(j - 1));
        if (i > 0) looks.add(lookOf(i - 1));
        return worthOf(looks, s.u, s.v);
    }

    public int rests(int first, int second, int what) {
        if (!in(what, 0, 2)) return no(OT);
        if (s == null) return no(ST);
        if (others(first) || others(second)) return no(NB);
        Q[][] gets = new Q[7][7];
        for (int i : choices(first)) for (int j : choices(second)) gets[i][j] = rival(i, j);
        List<int[]> found = new ArrayList<>();
        for (int i : choices(first)) {
            for (int j : choices(second)) {
                boolean rest = true;
                for (int k : choices(first)) rest &= gets[k][j].compareTo(gets[i][j]) <= 0;
                for (int k : choices(second)) rest &= gets[i][k].compareTo(gets[i][j]) >= 0;
                if (rest) found.add(new int[] {i, j});
            }
        }
        if (what == 0) return found.size();
        return found.isEmpty() ? -9 : found.get(0)[what - 1];
    }

    // ---- V

    private Q[] together(int[][] look, List<Integer> signs) {
        Q[] w = new Q[s.truths()];
        java.util.Arrays.fill(w, Q.ZERO);
        for (int sign : signs) {
            Q[] one = after(before(), look, sign);
            for (int t = 0; t < w.length; t++) w[t] = w[t].plus(one[t]);
        }
        return w;
    }

    private Q expects(Q[] w) {
        return dot(w, s.v[act(w, s.u)]).by(mass(w));
    }

    /** The signs that come and stay silent. */
    private List<Integer> silent(int[][] look) {
        List<Integer> quiet = new ArrayList<>();
        for (int k = 0; k < look[0].length; k++) {
            if (mass(after(before(), look, k)).sign() > 0) quiet.add(k);
        }
        while (!quiet.isEmpty()) {
            Q bar = expects(together(look, quiet));
            List<Integer> next = new ArrayList<>();
            for (int k : quiet) if (expects(after(before(), look, k)).compareTo(bar) <= 0) next.add(k);
            if (next.size() == quiet.size()) break;
            quiet = next;
        }
        return quiet;
    }

    public int shown(int look) {
        if (s == null) return no(ST);
        if (!isLook(look)) return no(NB);
        int bits = 0;
        int[][] l = s.looks.get(look);
        for (int k = 0; k < l[0].length; k++) {
            if (mass(after(before(), l, k)).sign() > 0 && !silent(l).contains(k)) bits |= 1 << k;
        }
        return bits;
    }

    public long law(int look, int part) {
        if (!in(part, 0, 1)) return far(OT);
        if (s == null) return far(ST);
        if (!isLook(look)) return far(NB);
        int[][] l = s.looks.get(look);
        List<Integer> quiet = silent(l);
        int[][] shut = new int[s.truths()][l[0].length + 1];
        for (int t = 0; t < s.truths(); t++) {
            for (int k = 0; k < l[0].length; k++) shut[t][quiet.contains(k) ? l[0].length : k] += l[t][k];
        }
        return worthOne(l, s.u, s.u).minus(worthOne(shut, s.u, s.u)).part(part);
    }

    /** What he gets from here on, given that he is here. */
    private Q days(Q[] w, List<Integer> tests) {
        Q stop = expects(w);
        if (tests.isEmpty()) return stop;
        Q go = Q.of(-s.tests.get(tests.get(0))[1]);
        int[][] look = lookOf(tests.get(0));
        for (int k = 0; k < look[0].length; k++) {
            Q[] next = after(w, look, k);
            if (mass(next).sign() == 0) continue;
            go = go.plus(mass(next).by(mass(w)).times(days(next, tests.subList(1, tests.size()))));
        }
        return stop.compareTo(go) >= 0 ? stop : go;
    }

    public long time(int a, int b, int c, int part) {
        if (!in(part, 0, 1)) return far(OT);
        if (s == null) return far(ST);
        List<Integer> order = new ArrayList<>();
        boolean ended = false;
        boolean bad = a == -1;
        for (int t : new int[] {a, b, c}) {
            if (t == -1) {
                ended = true;
                continue;
            }
            bad |= ended || !in(t, 0, s.tests.size() - 1) || order.contains(t);
            order.add(t);
        }
        if (bad) return far(NB);
        return days(before(), order).part(part);
    }

    public int undo() {
        if (past.isEmpty()) return no(ST);
        State was = past.remove(past.size() - 1);
        // Thoughts are no part of what is taken back.
        was.thoughts = s.thoughts;
        s = was;
        return 1;
    }

    public int image() {
        if (s == null) return no(ST);
        image = s.copy();
        return s.looks.size();
    }

    public int on() {
        if (image == null) return no(ST);
        s = image.copy();
        past.clear();
        return s.looks.size();
    }

    public int count(int what) {
        if (in(what, 11, 16)) return refused[what - 10];
        if (what == 5) return row.size();
        if (what == 6) return text.length();
        if (what == 7) return past.size();
        if (!in(what, 0, 4)) return -9;
        if (s == null) return 0;
        int[] all = {s.truths(), s.acts(), s.looks.size(), s.tests.size(), s.thoughts.size()};
        return all[what];
    }
}
