import java.util.ArrayList;
import java.util.List;

/**
 * The document once more, in the slowest and plainest way: everything is found by trying all that
 * there is, by the words of the terms. The class under test is compared with it, call by call.
 */
final class Oracle {
    private static final class State {
        int n = 2;
        int[] low = {0, 0, 0, 0};
        int[] high = {3, 3, 3, 3};
        List<int[]> rows = new ArrayList<>(); // kind, bound, within, four numbers
        int[][] vectors = unit(2);

        State again() {
            State s = new State();
            s.n = n;
            s.low = low.clone();
            s.high = high.clone();
            for (int[] row : rows) {
                s.rows.add(row.clone());
            }
            s.vectors = new int[n][];
            for (int i = 0; i < n; i++) {
                s.vectors[i] = vectors[i].clone();
            }
            return s;
        }

        long volume() {
            long all = 1;
            for (int i = 0; i < n; i++) {
                all *= high[i] - low[i] + 1;
            }
            return all;
        }

        boolean setLetters(int v) {
            State s = again();
            for (int i = n; i < v; i++) {
                s.low[i] = 0;
                s.high[i] = 3;
            }
            s.n = v;
            if (s.volume() > 4096) {
                return false;
            }
            low = s.low;
            high = s.high;
            if (v != n) {
                vectors = unit(v);
            }
            n = v;
            return true;
        }

        boolean setSide(int letter, int l, int h) {
            State s = again();
            s.low[letter] = l;
            s.high[letter] = h;
            if (s.volume() > 4096) {
                return false;
            }
            low[letter] = l;
            high[letter] = h;
            return true;
        }
    }

    private static int[][] unit(int n) {
        int[][] v = new int[n][n];
        for (int i = 0; i < n; i++) {
            v[i][i] = 1;
        }
        return v;
    }

    private State now = new State();
    private State kept = null;
    private final int[] found = new int[7];
    private String tape = "";
    private final long[][] sheets = new long[4][];
    private final int[] bits = new int[4];

    private int find(int finding) {
        found[-1000000001 - finding]++;
        return finding;
    }

    private static boolean from(int v, int least, int most) {
        return v >= least && v <= most;
    }

    private boolean letter(int i) {
        return from(i, 0, now.n - 1);
    }

    private boolean isRow(int r) {
        return from(r, 0, now.rows.size() - 1);
    }

    // ---- points and sums

    private static void points(int n, int[] low, int[] high, int[] at, int i, List<int[]> all) {
        if (i == n) {
            all.add(at.clone());
            return;
        }
        for (at[i] = low[i]; at[i] <= high[i]; at[i]++) {
            points(n, low, high, at, i + 1, all);
        }
    }

    private static List<int[]> points(int n, int[] low, int[] high) {
        List<int[]> all = new ArrayList<>();
        points(n, low, high, new int[n], 0, all);
        return all;
    }

    private static int sum(int n, int[] row, int[] at) {
        int sum = 0;
        for (int i = 0; i < n; i++) {
            sum += row[3 + i] * at[i];
        }
        return sum;
    }

    private static boolean holds(int kind, int bound, int within, int sum) {
        switch (kind) {
            case 0:
                return sum <= bound;
            case 1:
                return sum == bound;
            case 2:
                return bound - within <= sum && sum <= bound + within;
            case 3:
                return Math.floorMod(sum - bound, within) == 0;
            case 4:
                return !holds(2, bound, within, sum);
            default:
                return sum >= bound;
        }
    }

    private static boolean holds(int n, int[] row, int[] at) {
        return holds(row[0], row[1], row[2], sum(n, row, at));
    }

    private static boolean isIn(State s, int[] at) {
        for (int i = 0; i < s.n; i++) {
            if (at[i] < s.low[i] || at[i] > s.high[i]) {
                return false;
            }
        }
        for (int[] row : s.rows) {
            if (!holds(s.n, row, at)) {
                return false;
            }
        }
        return true;
    }

    private static List<int[]> in(State s) {
        List<int[]> all = new ArrayList<>();
        for (int[] at : points(s.n, s.low, s.high)) {
            if (isIn(s, at)) {
                all.add(at);
            }
        }
        return all;
    }

    private static int least(int n, int[] row, int[] low, int[] high) {
        int least = Integer.MAX_VALUE;
        for (int[] at : points(n, low, high)) {
            least = Math.min(least, sum(n, row, at));
        }
        return least;
    }

    private static int most(int n, int[] row, int[] low, int[] high) {
        int most = Integer.MIN_VALUE;
        for (int[] at : points(n, low, high)) {
            most = Math.max(most, sum(n, row, at));
        }
        return most;
    }

    // ---- letters, rows

    int letters(int v) {
        if (!from(v, 1, 4)) {
            return find(Checks.BEYOND);
        }
        int was = now.n;
        return now.setLetters(v) ? was : find(Checks.FULL);
    }

    int box(int letter, int low, int high) {
        if (!letter(letter) || !from(low, -9, 9) || !from(high, -9, 9) || low > high) {
            return find(Checks.BEYOND);
        }
        return now.setSide(letter, low, high) ? (int) now.volume() : find(Checks.FULL);
    }

    int boxOf(int letter, int what) {
        if (!letter(letter) || !from(what, 0, 1)) {
            return find(Checks.BEYOND);
        }
        return (what == 0 ? now.low : now.high)[letter];
    }

    int row(int kind, int bound, int within) {
        if (!from(kind, 0, 5) || !from(bound, -999, 999) || !from(within, 1, 99)) {
            return find(Checks.BEYOND);
        }
        if (now.rows.size() == 8) {
            return find(Checks.FULL);
        }
        now.rows.add(new int[] {kind, bound, within, 0, 0, 0, 0});
        return now.rows.size() - 1;
    }

    int of(int row, int what) {
        if (!isRow(row) || !from(what, 0, 8)) {
            return find(Checks.BEYOND);
        }
        int[] r = now.rows.get(row);
        if (what < 7) {
            return r[what];
        }
        return what == 7 ? least(now.n, r, now.low, now.high) : most(now.n, r, now.low, now.high);
    }

    int change(int row, int what, int v) {
        if (!isRow(row) || !from(what, 0, 6)) {
            return find(Checks.BEYOND);
        }
        int least = what == 0 ? 0 : what == 1 ? -999 : what == 2 ? 1 : -9;
        int most = what == 0 ? 5 : what == 1 ? 999 : what == 2 ? 99 : 9;
        if (!from(v, least, most)) {
            return find(Checks.BEYOND);
        }
        int was = now.rows.get(row)[what];
        now.rows.get(row)[what] = v;
        return was;
    }

    int as(int row, int kind) {
        if (!isRow(row) || !from(kind, 0, 5)) {
            return find(Checks.BEYOND);
        }
        String[] fits = {"0", "10", "20", "310", "420", "50"};
        int[] r = now.rows.get(row);
        return fits[r[0]].indexOf((char) ('0' + kind)) >= 0 ? r[1] : find(Checks.KIND);
    }

    int drop() {
        if (now.rows.isEmpty()) {
            return find(Checks.NONE);
        }
        now.rows.remove(now.rows.size() - 1);
        return now.rows.size();
    }

    // ---- points

    int many() {
        return in(now).size();
    }

    int point(int k, int letter) {
        if (!letter(letter)) {
            return find(Checks.BEYOND);
        }
        List<int[]> in = in(now);
        return from(k, 0, in.size() - 1) ? in.get(k)[letter] : find(Checks.NONE);
    }

    private int sheetFinding(int s, boolean size, boolean state) {
        if (!from(s, 0, 3)) {
            return Checks.BEYOND;
        }
        if (sheets[s] == null) {
            return Checks.MISSING;
        }
        if (size && sheets[s].length < now.n) {
            return Checks.SIZE;
        }
        for (int i = 0; state && i < now.n; i++) {
            if (Math.abs((double) sheets[s][i]) > 999) {
                return Checks.STATE;
            }
        }
        return 0;
    }

    private int[] spot(int s) {
        int[] at = new int[now.n];
        for (int i = 0; i < now.n; i++) {
            at[i] = (int) sheets[s][i];
        }
        return at;
    }

    int holds(int s) {
        int finding = sheetFinding(s, true, true);
        if (finding != 0) {
            return find(finding);
        }
        int set = 0;
        for (int r = 0; r < now.rows.size(); r++) {
            set += holds(now.n, now.rows.get(r), spot(s)) ? 1 << r : 0;
        }
        return set;
    }

    private static int power5(int n) {
        return n == 0 ? 1 : 5 * power5(n - 1);
    }

    private static int along(int n, int direction, int[] at) {
        int sum = 0;
        for (int i = 0; i < n; i++) {
            sum += (direction / power5(n - 1 - i) % 5 - 2) * at[i];
        }
        return sum;
    }

    private static int[] sweep(int n, int direction, List<int[]> in) {
        int least = Integer.MAX_VALUE;
        int most = Integer.MIN_VALUE;
        int first = -1;
        for (int k = 0; k < in.size(); k++) {
            int sum = along(n, direction, in.get(k));
            if (sum > most) {
                first = k;
            }
            most = Math.max(most, sum);
            least = Math.min(least, sum);
        }
        return new int[] {most, first, most - least};
    }

    int best(int direction, int what) {
        if (!from(direction, 0, power5(now.n) - 1) || !from(what, 0, 2)) {
            return find(Checks.BEYOND);
        }
        List<int[]> in = in(now);
        return in.isEmpty() ? find(Checks.NONE) : sweep(now.n, direction, in)[what];
    }

    int thin(int what) {
        if (!from(what, 0, 1)) {
            return find(Checks.BEYOND);
        }
        List<int[]> in = in(now);
        if (in.isEmpty()) {
            return find(Checks.NONE);
        }
        int best = -1;
        int span = Integer.MAX_VALUE;
        for (int d = 0; d < power5(now.n); d++) {
            boolean zero = d == (power5(now.n) - 1) / 2;
            int its = sweep(now.n, d, in)[2];
            if (!zero && its < span) {
                best = d;
                span = its;
            }
        }
        return what == 0 ? best : span;
    }

    int mean(int letter, int part) {
        if (!letter(letter) || !from(part, 0, 1)) {
            return find(Checks.BEYOND);
        }
        List<int[]> in = in(now);
        if (in.isEmpty()) {
            return find(Checks.NONE);
        }
        int above = 0;
        for (int[] at : in) {
            above += at[letter];
        }
        int below = in.size();
        for (int d = below; d > 1; d--) {
            if (above % d == 0 && below % d == 0) {
                above /= d;
                below /= d;
            }
        }
        return part == 0 ? above : below;
    }

    int round(int k) {
        List<int[]> in = in(now);
        if (!from(k, 0, in.size() - 1)) {
            return find(Checks.NONE);
        }
        int[] low = now.low.clone();
        int[] high = now.high.clone();
        for (int i = 0; i < now.n; i++) {
            low[i]--;
            high[i]++;
        }
        int nearest = Integer.MAX_VALUE;
        for (int[] at : points(now.n, low, high)) {
            if (!isIn(now, at)) {
                int square = 0;
                for (int i = 0; i < now.n; i++) {
                    square += (at[i] - in.get(k)[i]) * (at[i] - in.get(k)[i]);
                }
                nearest = Math.min(nearest, square);
            }
        }
        return nearest;
    }

    // ---- the tree

    private static final class Leaf {
        int[] low;
        int[] high;
        int dead;
        int points;
    }

    /** Leaves of the tree under a cell; counts[0] is how many cells, counts[1] how deep. */
    private List<Leaf> leaves(int[] low, int[] high, int depth, int[] counts) {
        counts[0]++;
        int dead = -1;
        boolean whole = true;
        for (int r = now.rows.size() - 1; r >= 0; r--) {
            int[] row = now.rows.get(r);
            int all = 0;
            int held = 0;
            int most = most(now.n, row, low, high);
            for (int sum = least(now.n, row, low, high); sum <= most; sum++) {
                all++;
                held += holds(row[0], row[1], row[2], sum) ? 1 : 0;
            }
            dead = held == 0 ? r : dead;
            whole &= held == all;
        }
        List<Leaf> leaves = new ArrayList<>();
        if (dead >= 0 || whole) {
            Leaf leaf = new Leaf();
            leaf.low = low;
            leaf.high = high;
            leaf.dead = dead;
            leaf.points = points(now.n, low, high).size();
            leaves.add(leaf);
            counts[1] = Math.max(counts[1], depth);
            return leaves;
        }
        int by = now.n - 1;
        for (int i = now.n - 2; i >= 0; i--) {
            by = high[i] - low[i] >= high[by] - low[by] ? i : by;
        }
        int middle = (int) Math.floor((low[by] + high[by]) / 2.0);
        int[] first = high.clone();
        first[by] = middle;
        leaves.addAll(leaves(low, first, depth + 1, counts));
        int[] second = low.clone();
        second[by] = middle + 1;
        leaves.addAll(leaves(second, high, depth + 1, counts));
        return leaves;
    }

    private List<Leaf> leaves() {
        return leaves(now.low.clone(), now.high.clone(), 0, new int[2]);
    }

    int tree(int what) {
        if (!from(what, 0, 3)) {
            return find(Checks.BEYOND);
        }
        int[] counts = new int[2];
        List<Leaf> leaves = leaves(now.low.clone(), now.high.clone(), 0, counts);
        if (what < 2) {
            return counts[what];
        }
        int some = 0;
        for (Leaf leaf : leaves) {
            some += leaf.dead >= 0 == (what == 2) ? 1 : 0;
        }
        return some;
    }

    int leaf(int k, int what) {
        if (!from(what, 0, 2)) {
            return find(Checks.BEYOND);
        }
        List<Leaf> leaves = leaves();
        if (!from(k, 0, leaves.size() - 1)) {
            return find(Checks.NONE);
        }
        Leaf leaf = leaves.get(k);
        return what == 0 ? (leaf.dead < 0 ? 1 : 0) : what == 1 ? leaf.points : leaf.dead;
    }

    int side(int k, int letter, int what) {
        if (!letter(letter) || !from(what, 0, 1)) {
            return find(Checks.BEYOND);
        }
        List<Leaf> leaves = leaves();
        if (!from(k, 0, leaves.size() - 1)) {
            return find(Checks.NONE);
        }
        return (what == 0 ? leaves.get(k).low : leaves.get(k).high)[letter];
    }

    int where(int s) {
        int finding = sheetFinding(s, true, false);
        if (finding != 0) {
            return find(finding);
        }
        List<Leaf> leaves = leaves();
        for (int k = 0; k < leaves.size(); k++) {
            boolean inside = true;
            for (int i = 0; i < now.n; i++) {
                inside &= sheets[s][i] >= leaves.get(k).low[i] && sheets[s][i] <= leaves.get(k).high[i];
            }
            if (inside) {
                return k;
            }
        }
        return find(Checks.NONE);
    }

    /** What the judge wants to be told, as far as a sheet can be. */
    long[] proof() {
        List<Leaf> leaves = leaves();
        long[] proof = new long[leaves.size()];
        for (int k = 0; k < proof.length; k++) {
            proof[k] = leaves.get(k).dead >= 0 ? -leaves.get(k).points : leaves.get(k).points;
        }
        return proof;
    }

    int judge(int s) {
        int finding = sheetFinding(s, false, false);
        if (finding != 0) {
            return find(finding);
        }
        long[] proof = proof();
        for (int k = 0; k < proof.length || k < sheets[s].length; k++) {
            if (k >= proof.length || k >= sheets[s].length || proof[k] != sheets[s][k]) {
                return 1 + k;
            }
        }
        return 0;
    }

    // ---- what is best

    private int manyWithout(int set) {
        State s = now.again();
        for (int r = s.rows.size() - 1; r >= 0; r--) {
            if ((set >> r & 1) != 0) {
                s.rows.remove(r);
            }
        }
        return in(s).size();
    }

    int needs() {
        for (int few = 0; few <= 8; few++) {
            for (int set = 0; set < 1 << now.rows.size(); set++) {
                if (Integer.bitCount(set) == few && manyWithout(set) > 0) {
                    return set;
                }
            }
        }
        throw new IllegalStateException("no set of rows");
    }

    int without() {
        if (now.rows.isEmpty()) {
            return find(Checks.NONE);
        }
        int best = 0;
        for (int r = 1; r < now.rows.size(); r++) {
            best = manyWithout(1 << r) > manyWithout(1 << best) ? r : best;
        }
        return best;
    }

    private int manyWith(int row, int what, int v) {
        State s = now.again();
        s.rows.get(row)[what] = v;
        return in(s).size();
    }

    int kind(int row) {
        if (!isRow(row)) {
            return find(Checks.BEYOND);
        }
        int best = 0;
        for (int kind = 1; kind < 6; kind++) {
            best = manyWith(row, 0, kind) > manyWith(row, 0, best) ? kind : best;
        }
        return best;
    }

    int boundFor(int row) {
        if (!isRow(row)) {
            return find(Checks.BEYOND);
        }
        State s = now.again();
        int[] r = s.rows.remove(row);
        List<int[]> others = in(s);
        for (int bound = -999; bound <= 999; bound++) {
            for (int[] at : others) {
                if (holds(r[0], bound, r[2], sum(s.n, r, at))) {
                    return bound;
                }
            }
        }
        return find(Checks.NONE);
    }

    // ---- the lattice

    int base(int vector, int letter, int v) {
        if (!letter(vector) || !letter(letter) || !from(v, -4, 4)) {
            return find(Checks.BEYOND);
        }
        int was = now.vectors[vector][letter];
        now.vectors[vector][letter] = v;
        return was;
    }

    int baseOf(int vector, int letter) {
        return letter(vector) && letter(letter) ? now.vectors[vector][letter] : find(Checks.BEYOND);
    }

    int mix(int vector, int other, int k) {
        if (!letter(vector) || !letter(other) || vector == other || !from(k, -3, 3)) {
            return find(Checks.BEYOND);
        }
        int[] mixed = now.vectors[other].clone();
        for (int i = 0; i < now.n; i++) {
            mixed[i] += k * now.vectors[vector][i];
            if (!from(mixed[i], -4, 4)) {
                return find(Checks.STATE);
            }
        }
        now.vectors[other] = mixed;
        return 1;
    }

    int swap(int vector, int other) {
        if (!letter(vector) || !letter(other) || vector == other) {
            return find(Checks.BEYOND);
        }
        int[] was = now.vectors[vector];
        now.vectors[vector] = now.vectors[other];
        now.vectors[other] = was;
        return 1;
    }

    /** The determinant by its first row. */
    private static int determinant(int[][] m) {
        if (m.length == 1) {
            return m[0][0];
        }
        int sum = 0;
        for (int c = 0; c < m.length; c++) {
            sum += (c % 2 == 0 ? 1 : -1) * m[0][c] * determinant(minor(m, 0, c));
        }
        return sum;
    }

    private static int[][] minor(int[][] m, int row, int column) {
        int[][] less = new int[m.length - 1][m.length - 1];
        for (int r = 0; r < less.length; r++) {
            for (int c = 0; c < less.length; c++) {
                less[r][c] = m[r < row ? r : r + 1][c < column ? c : c + 1];
            }
        }
        return less;
    }

    int det() {
        return determinant(now.vectors);
    }

    /** The vectors' adjugate, and their determinant: what is wanted, time and again, for inLattice. */
    private int[][] adjugate() {
        int n = now.n;
        int[][] adjugate = new int[n][n];
        for (int r = 0; r < n; r++) {
            for (int c = 0; c < n; c++) {
                int less = n == 1 ? 1 : determinant(minor(now.vectors, r, c));
                adjugate[c][r] = (r + c) % 2 == 0 ? less : -less;
            }
        }
        return adjugate;
    }

    /** By Cramer's rule: at is in, if each of its multiples of a vector is whole. */
    private static boolean inLattice(int[][] adjugate, int det, int[] at) {
        for (int c = 0; c < at.length; c++) {
            long times = 0;
            for (int i = 0; i < at.length; i++) {
                times += (long) at[i] * adjugate[i][c];
            }
            if (times % det != 0) {
                return false;
            }
        }
        return true;
    }

    /** From the last vector up, trying all letters that the words of FORM leave. */
    private int[][] formed() {
        int n = now.n;
        int det = det();
        int[][] adjugate = adjugate();
        int[][] form = new int[n][n];
        for (int v = n - 1; v >= 0; v--) {
            form[v] = null;
            for (int pivot = 1; form[v] == null; pivot++) {
                int[] low = new int[n];
                int[] high = new int[n];
                low[v] = pivot;
                high[v] = pivot;
                for (int i = v + 1; i < n; i++) {
                    high[i] = form[i][i] - 1;
                }
                for (int[] at : points(n, low, high)) {
                    if (inLattice(adjugate, det, at)) {
                        form[v] = at;
                        break;
                    }
                }
            }
        }
        return form;
    }

    int form(int vector, int letter) {
        if (!letter(vector) || !letter(letter)) {
            return find(Checks.BEYOND);
        }
        return det() == 0 ? find(Checks.NONE) : formed()[vector][letter];
    }

    int shortest(int letter) {
        if (!from(letter, -1, now.n - 1)) {
            return find(Checks.BEYOND);
        }
        if (det() == 0) {
            return find(Checks.NONE);
        }
        int[][] adjugate = adjugate();
        int det = det();
        int[] best = null;
        int square = Integer.MAX_VALUE;
        for (int[] at : points(now.n, new int[] {-8, -8, -8, -8}, new int[] {8, 8, 8, 8})) {
            int its = 0;
            for (int v : at) {
                its += v * v;
            }
            // points come with lesser letters first: so of several the last counts
            if (its > 0 && its <= square && inLattice(adjugate, det, at)) {
                best = at;
                square = its;
            }
        }
        return letter == -1 ? square : best[letter];
    }

    int common() {
        if (det() == 0) {
            return find(Checks.NONE);
        }
        int both = 0;
        for (int[] at : in(now)) {
            both += inLattice(adjugate(), det(), at) ? 1 : 0;
        }
        return both;
    }

    int lies(int s) {
        int finding = sheetFinding(s, true, true);
        if (finding != 0) {
            return find(finding);
        }
        if (det() == 0) {
            return find(Checks.NONE);
        }
        return inLattice(adjugate(), det(), spot(s)) ? 1 : 0;
    }

    // ---- texts

    int feed(int bytes, int n) {
        if (!from(n, 1, 4)) {
            return find(Checks.BEYOND);
        }
        if (tape.length() + n > 120) {
            return find(Checks.FULL);
        }
        for (int i = n - 1; i >= 0; i--) {
            tape += (char) (bytes >>> 8 * i & 255);
        }
        return tape.length();
    }

    int wipe() {
        int had = tape.length();
        tape = "";
        return had;
    }

    int text() {
        State draft = now.again();
        OracleText text = new OracleText(tape);
        tape = "";
        int items = 0;
        do {
            if (!item(text, draft)) {
                return -1 - text.place();
            }
            items++;
        } while (text.take(";"));
        if (!text.atEnd()) {
            return -1 - text.place();
        }
        now = draft;
        return items;
    }

    private boolean item(OracleText text, State draft) {
        if (text.take("letters")) {
            return text.sees(false, 1, 4) && draft.setLetters(text.value()) && text.next();
        }
        if (text.take("box")) {
            int[] v = new int[2];
            if (!text.sees(false, 0, draft.n - 1)) {
                return false;
            }
            v[0] = text.value();
            text.next();
            if (!text.sees(true, -9, 9)) {
                return false;
            }
            v[1] = text.value();
            text.next();
            return text.sees(true, v[1], 9) && draft.setSide(v[0], v[1], text.value()) && text.next();
        }
        String[] kinds = {"row", "tie", "band", "comb", "off", "least"};
        for (int kind = 0; kind < 6; kind++) {
            if (draft.rows.size() < 8 && text.take(kinds[kind])) {
                return rowOf(text, draft, kind);
            }
        }
        return false;
    }

    private boolean rowOf(OracleText text, State draft, int kind) {
        int[] row = {kind, 0, 1, 0, 0, 0, 0};
        for (int i = 0; i < draft.n; i++) {
            if (!text.sees(true, -9, 9)) {
                return false;
            }
            row[3 + i] = text.value();
            text.next();
        }
        if (text.take("bound")) {
            if (!text.sees(true, -999, 999)) {
                return false;
            }
            row[1] = text.value();
            text.next();
        }
        if (text.take("within")) {
            if (!text.sees(false, 1, 99)) {
                return false;
            }
            row[2] = text.value();
            text.next();
        }
        draft.rows.add(row);
        return true;
    }

    // ---- sheets

    private long cut(int s, long v) {
        return bits[s] == 64 ? v : v << 64 - bits[s] >> 64 - bits[s];
    }

    int sheet(int s, int b, int n) {
        if (!from(s, 0, 3) || b != 0 && b != 8 && b != 16 && b != 64) {
            return find(Checks.BEYOND);
        }
        if (b == 0) {
            sheets[s] = null;
            return 0;
        }
        if (n < 0) {
            return find(Checks.SIZE);
        }
        if (n > 40) {
            return find(Checks.BEYOND);
        }
        bits[s] = b;
        sheets[s] = new long[n];
        return n;
    }

    long write(int s, int i, long v) {
        int finding = sheetFinding(s, false, false);
        if (finding != 0) {
            return find(finding);
        }
        if (!from(i, 0, sheets[s].length - 1)) {
            return find(Checks.BEYOND);
        }
        long was = sheets[s][i];
        sheets[s][i] = cut(s, v);
        return was;
    }

    int copy(int s, int from, int t, int to, int n) {
        if (!from(s, 0, 3) || !from(t, 0, 3)) {
            return find(Checks.BEYOND);
        }
        if (sheets[s] == null || sheets[t] == null) {
            return find(Checks.MISSING);
        }
        if (bits[s] != bits[t]) {
            return find(Checks.KIND);
        }
        if (from < 0 || to < 0 || n < 0 || (long) from + n > sheets[s].length || (long) to + n > sheets[t].length) {
            return find(Checks.BEYOND);
        }
        long[] as = sheets[s].clone();
        for (int i = 0; i < n; i++) {
            sheets[t][to + i] = as[from + i];
        }
        return n;
    }

    int lays(int s, int k) {
        int finding = sheetFinding(s, false, false);
        if (finding != 0) {
            return find(finding);
        }
        List<int[]> in = in(now);
        if (!from(k, 0, in.size() - 1)) {
            return find(Checks.NONE);
        }
        int laid = 0;
        while (laid < now.n && laid < sheets[s].length) {
            sheets[s][laid] = in.get(k)[laid];
            laid++;
        }
        return laid;
    }

    // ---- images

    int image() {
        kept = now.again();
        return 1;
    }

    int undo() {
        if (kept == null) {
            return find(Checks.NONE);
        }
        now = kept.again();
        return now.rows.size();
    }

    int tear() {
        int was = kept == null ? 0 : 1;
        kept = null;
        return was;
    }

    int count(int what) {
        if (!from(what, 0, 3)) {
            return find(Checks.BEYOND);
        }
        return new int[] {now.n, now.rows.size(), (int) now.volume(), tape.length()}[what];
    }

    int status(int which) {
        if (!from(which, -1, 6)) {
            return find(Checks.BEYOND);
        }
        int all = 0;
        for (int f = 0; f < 7; f++) {
            all += which == -1 || which == f ? found[f] : 0;
        }
        return all;
    }
}
