/**
 * Whole points in thin bodies: a box of up to four letters, rows of kinds that bind them, the tree
 * of boxes that proves which points are in, what had best be changed, a lattice, and bodies from
 * texts. ../shared/DOC.md tells what each call promises; README.md shows how it is used.
 */
public final class ThinBodies {
    /** Findings by number: an act that has one answers FIRST_FINDING less its number. */
    private static final int FINE = -1;
    private static final int BEYOND = 0;
    private static final int FULL = 1;
    private static final int KIND = 2;
    private static final int NONE = 3;
    private static final int STATE = 4;
    private static final int MISSING = 5;
    private static final int SIZE = 6;
    private static final int FINDINGS = 7;
    private static final int FIRST_FINDING = -1000000001;

    private static final int MOST_LETTERS = 4;
    private static final int MOST_SIDE = 9;
    private static final int MOST_POINTS = 4096;
    private static final int MOST_ROWS = 8;
    private static final int MOST_BOUND = 999;
    private static final int MOST_WITHIN = 99;
    private static final int MOST_BASE = 4;
    private static final int MOST_MIX = 3;
    private static final int MOST_BYTES = 120;
    private static final int SHEETS = 4;
    private static final int MOST_NUMBERS = 40;
    private static final int MOST_IN_POINT = 999;
    /** More than any sum, span or square comes to. */
    private static final int VERY_MANY = 1000000000;

    private static final int ROW = 0;
    private static final int TIE = 1;
    private static final int BAND = 2;
    private static final int COMB = 3;
    private static final int OFF = 4;
    private static final int LEAST = 5;
    private static final int KINDS = 6;
    /** The kind that each kind stands under, -1 for none. */
    private static final int[] UNDER = {-1, ROW, ROW, TIE, BAND, ROW};

    /** A letter from -9 to 9 takes five bits, so a point takes twenty. */
    private static final int LETTER_BITS = 5;
    private static final int LETTER_MASK = 31;
    private static final int POINT_BITS = 20;
    private static final int POINT_MASK = (1 << POINT_BITS) - 1;

    /** Euclid's steps on numbers below 10 to the 12th, as all are here, are fewer than 60. */
    private static final int MOST_STEPS = 100;

    private final Body body = new Body();
    private final Body kept = new Body();
    private final Body draft = new Body();
    private boolean keeps = false;
    private final Cloud cloud = new Cloud();
    private final Tree cells = new Tree();
    private final Lattice lattice = new Lattice();
    private final Reader tape = new Reader();
    private final Sheet[] sheets = new Sheet[SHEETS];
    private final int[] found = new int[FINDINGS];
    private final int[] spot = new int[MOST_LETTERS];

    public ThinBodies() {
        for (int s = 0; s < SHEETS; s++) {
            sheets[s] = new Sheet();
        }
    }

    // ---- letters, rows

    public int letters(int v) {
        if (v < 1 || v > MOST_LETTERS) {
            return finding(BEYOND);
        }
        if (body.pointsWithLetters(v) > MOST_POINTS) {
            return finding(FULL);
        }
        int was = body.n;
        body.setLetters(v);
        bodyChanged();
        return was;
    }

    public int box(int letter, int low, int high) {
        if (!body.hasLetter(letter) || !within(low, MOST_SIDE) || !within(high, MOST_SIDE) || low > high) {
            return finding(BEYOND);
        }
        if (body.pointsWithSide(letter, low, high) > MOST_POINTS) {
            return finding(FULL);
        }
        body.setSide(letter, low, high);
        bodyChanged();
        return body.points();
    }

    public int boxOf(int letter, int what) {
        if (!body.hasLetter(letter) || what < 0 || what > 1) {
            return finding(BEYOND);
        }
        return what == 0 ? body.lows[letter] : body.highs[letter];
    }

    public int row(int kind, int bound, int within) {
        if (!Row.takesPart(0, kind) || !Row.takesPart(1, bound) || !Row.takesPart(2, within)) {
            return finding(BEYOND);
        }
        if (body.rowCount >= MOST_ROWS) {
            return finding(FULL);
        }
        body.addRow(kind, bound, within);
        bodyChanged();
        return body.rowCount - 1;
    }

    public int of(int row, int what) {
        if (!body.hasRow(row) || what < 0 || what > 8) {
            return finding(BEYOND);
        }
        Row asked = body.rows[row];
        if (what == 7) {
            return asked.leastIn(body.lows, body.highs, body.n);
        }
        if (what == 8) {
            return asked.mostIn(body.lows, body.highs, body.n);
        }
        return asked.part(what);
    }

    public int change(int row, int what, int v) {
        if (!body.hasRow(row) || !Row.takesPart(what, v)) {
            return finding(BEYOND);
        }
        Row changed = body.rows[row];
        int was = changed.part(what);
        changed.setPart(what, v);
        bodyChanged();
        return was;
    }

    public int as(int row, int kind) {
        if (!body.hasRow(row) || kind < 0 || kind >= KINDS) {
            return finding(BEYOND);
        }
        Row asked = body.rows[row];
        if (!Row.isUnder(asked.kind, kind)) {
            return finding(KIND);
        }
        return asked.bound;
    }

    public int drop() {
        if (body.rowCount == 0) {
            return finding(NONE);
        }
        body.rowCount--;
        bodyChanged();
        return body.rowCount;
    }

    // ---- points

    public int many() {
        cloud.refresh(body);
        return cloud.inside;
    }

    public int point(int k, int letter) {
        if (!body.hasLetter(letter)) {
            return finding(BEYOND);
        }
        cloud.refresh(body);
        int place = cloud.placeOf(k);
        if (place < 0) {
            return finding(NONE);
        }
        return cloud.letterAt(place, letter);
    }

    public int holds(int s) {
        int trouble = smallPointTrouble(s);
        if (trouble != FINE) {
            return finding(trouble);
        }
        readSpot(sheets[s]);
        int all = (1 << body.rowCount) - 1;
        return all & ~body.brokenIn(spot);
    }

    public int best(int direction, int what) {
        if (direction < 0 || direction >= Cloud.directions(body.n) || what < 0 || what > 2) {
            return finding(BEYOND);
        }
        cloud.refresh(body);
        if (cloud.inside == 0) {
            return finding(NONE);
        }
        cloud.sweep(direction, body.n, VERY_MANY);
        if (what == 0) {
            return cloud.greatest;
        }
        return what == 1 ? cloud.firstGreatest : cloud.greatest - cloud.least;
    }

    public int thin(int what) {
        if (what < 0 || what > 1) {
            return finding(BEYOND);
        }
        cloud.refresh(body);
        if (cloud.inside == 0) {
            return finding(NONE);
        }
        cloud.findThin(body.n);
        return what == 0 ? cloud.thinDirection : cloud.thinSpan;
    }

    public int mean(int letter, int part) {
        if (!body.hasLetter(letter) || part < 0 || part > 1) {
            return finding(BEYOND);
        }
        cloud.refresh(body);
        if (cloud.inside == 0) {
            return finding(NONE);
        }
        int sum = cloud.sumOfLetter(letter);
        int divisor = Math.max(1, greatestDivisor(Math.abs(sum), cloud.inside));
        return part == 0 ? sum / divisor : cloud.inside / divisor;
    }

    public int round(int k) {
        cloud.refresh(body);
        int place = cloud.placeOf(k);
        if (place < 0) {
            return finding(NONE);
        }
        int toSide = cloud.squareToSides(place, body);
        int toPoint = cloud.squareToBroken(place, body.n);
        return Math.min(toSide, toPoint);
    }

    // ---- the tree

    public int tree(int what) {
        if (what < 0 || what > 3) {
            return finding(BEYOND);
        }
        cells.refresh(body);
        if (what == 0) {
            return cells.cellCount;
        }
        if (what == 1) {
            return cells.deep;
        }
        return what == 2 ? cells.deadCount : cells.leafCount - cells.deadCount;
    }

    public int leaf(int k, int what) {
        if (what < 0 || what > 2) {
            return finding(BEYOND);
        }
        cells.refresh(body);
        if (!cells.hasLeaf(k)) {
            return finding(NONE);
        }
        if (what == 0) {
            return cells.deadRow(k) < 0 ? 1 : 0;
        }
        return what == 1 ? cells.pointsIn(k, body.n) : cells.deadRow(k);
    }

    public int side(int k, int letter, int what) {
        if (!body.hasLetter(letter) || what < 0 || what > 1) {
            return finding(BEYOND);
        }
        cells.refresh(body);
        if (!cells.hasLeaf(k)) {
            return finding(NONE);
        }
        return what == 0 ? cells.lowOf(k, letter) : cells.highOf(k, letter);
    }

    public int where(int s) {
        int trouble = pointTrouble(s);
        if (trouble != FINE) {
            return finding(trouble);
        }
        cells.refresh(body);
        int k = cells.leafWith(sheets[s].numbers, body.n);
        return k < 0 ? finding(NONE) : k;
    }

    public int judge(int s) {
        int trouble = sheetTrouble(s);
        if (trouble != FINE) {
            return finding(trouble);
        }
        cells.refresh(body);
        Sheet proof = sheets[s];
        int least = Math.min(proof.size, cells.leafCount);
        for (int k = 0; k < least; k++) {
            if (proof.numbers[k] != cells.proofOf(k, body.n)) {
                return 1 + k;
            }
        }
        return proof.size == cells.leafCount ? 0 : 1 + least;
    }

    // ---- what is best

    public int needs() {
        cloud.refresh(body);
        return cloud.fewestBroken();
    }

    public int without() {
        if (body.rowCount == 0) {
            return finding(NONE);
        }
        cloud.refresh(body);
        int best = 0;
        int most = -1;
        for (int r = 0; r < body.rowCount; r++) {
            int freed = cloud.insideWithout(r);
            if (freed > most) {
                most = freed;
                best = r;
            }
        }
        return best;
    }

    public int kind(int row) {
        if (!body.hasRow(row)) {
            return finding(BEYOND);
        }
        cloud.refresh(body);
        int best = 0;
        int most = -1;
        for (int kind = 0; kind < KINDS; kind++) {
            int inside = cloud.insideAs(body, row, kind);
            if (inside > most) {
                most = inside;
                best = kind;
            }
        }
        return best;
    }

    public int boundFor(int row) {
        if (!body.hasRow(row)) {
            return finding(BEYOND);
        }
        cloud.refresh(body);
        int least = cloud.leastBound(body, row);
        return least > MOST_BOUND ? finding(NONE) : least;
    }

    // ---- the lattice

    public int base(int vector, int letter, int v) {
        if (!body.hasLetter(vector) || !body.hasLetter(letter) || !within(v, MOST_BASE)) {
            return finding(BEYOND);
        }
        int was = body.vectors[vector][letter];
        body.vectors[vector][letter] = v;
        return was;
    }

    public int baseOf(int vector, int letter) {
        if (!body.hasLetter(vector) || !body.hasLetter(letter)) {
            return finding(BEYOND);
        }
        return body.vectors[vector][letter];
    }

    public int mix(int vector, int other, int k) {
        if (!isPair(vector, other) || !within(k, MOST_MIX)) {
            return finding(BEYOND);
        }
        int[] from = body.vectors[vector];
        int[] to = body.vectors[other];
        for (int i = 0; i < body.n; i++) {
            if (!within(to[i] + k * from[i], MOST_BASE)) {
                return finding(STATE);
            }
        }
        for (int i = 0; i < body.n; i++) {
            to[i] += k * from[i];
        }
        return 1;
    }

    public int swap(int vector, int other) {
        if (!isPair(vector, other)) {
            return finding(BEYOND);
        }
        for (int i = 0; i < body.n; i++) {
            int was = body.vectors[vector][i];
            body.vectors[vector][i] = body.vectors[other][i];
            body.vectors[other][i] = was;
        }
        return 1;
    }

    public int det() {
        return lattice.makeForm(body);
    }

    public int form(int vector, int letter) {
        if (!body.hasLetter(vector) || !body.hasLetter(letter)) {
            return finding(BEYOND);
        }
        if (lattice.makeForm(body) == 0) {
            return finding(NONE);
        }
        return (int) lattice.rows[vector][letter];
    }

    public int shortest(int letter) {
        if (letter != -1 && !body.hasLetter(letter)) {
            return finding(BEYOND);
        }
        if (lattice.makeForm(body) == 0) {
            return finding(NONE);
        }
        lattice.findShort(body);
        return letter == -1 ? lattice.shortSquare : lattice.shortVector[letter];
    }

    public int common() {
        if (lattice.makeForm(body) == 0) {
            return finding(NONE);
        }
        cloud.refresh(body);
        int both = 0;
        for (int place = 0; place < cloud.size; place++) {
            if (cloud.isIn(place)) {
                cloud.readInto(place, spot, body.n);
                both += lattice.contains(spot) ? 1 : 0;
            }
        }
        return both;
    }

    public int lies(int s) {
        int trouble = smallPointTrouble(s);
        if (trouble != FINE) {
            return finding(trouble);
        }
        if (lattice.makeForm(body) == 0) {
            return finding(NONE);
        }
        readSpot(sheets[s]);
        return lattice.contains(spot) ? 1 : 0;
    }

    // ---- texts

    public int feed(int bytes, int n) {
        if (n < 1 || n > 4) {
            return finding(BEYOND);
        }
        if (tape.length + n > MOST_BYTES) {
            return finding(FULL);
        }
        for (int i = n - 1; i >= 0; i--) {
            tape.add((byte) (bytes >> (8 * i)));
        }
        return tape.length;
    }

    public int wipe() {
        int had = tape.length;
        tape.length = 0;
        return had;
    }

    public int text() {
        draft.take(body);
        int items = tape.read(draft);
        tape.length = 0;
        if (items >= 0) {
            body.take(draft);
            bodyChanged();
        }
        return items;
    }

    // ---- sheets

    public int sheet(int s, int bits, int n) {
        if (!isSheet(s) || (bits != 0 && bits != 8 && bits != 16 && bits != 64)) {
            return finding(BEYOND);
        }
        if (bits != 0 && n < 0) {
            return finding(SIZE);
        }
        if (bits != 0 && n > MOST_NUMBERS) {
            return finding(BEYOND);
        }
        sheets[s].begin(bits, bits == 0 ? 0 : n);
        return sheets[s].size;
    }

    public long write(int s, int i, long v) {
        int trouble = sheetTrouble(s);
        if (trouble != FINE) {
            return finding(trouble);
        }
        Sheet written = sheets[s];
        if (i < 0 || i >= written.size) {
            return finding(BEYOND);
        }
        long was = written.numbers[i];
        written.put(i, v);
        return was;
    }

    public int copy(int s, int from, int t, int to, int n) {
        if (!isSheet(s) || !isSheet(t)) {
            return finding(BEYOND);
        }
        Sheet source = sheets[s];
        Sheet target = sheets[t];
        if (source.bits == 0 || target.bits == 0) {
            return finding(MISSING);
        }
        if (source.bits != target.bits) {
            return finding(KIND);
        }
        if (!source.hasRange(from, n) || !target.hasRange(to, n)) {
            return finding(BEYOND);
        }
        System.arraycopy(source.numbers, from, target.numbers, to, n);
        return n;
    }

    public int lays(int s, int k) {
        int trouble = sheetTrouble(s);
        if (trouble != FINE) {
            return finding(trouble);
        }
        cloud.refresh(body);
        int place = cloud.placeOf(k);
        if (place < 0) {
            return finding(NONE);
        }
        int laid = Math.min(body.n, sheets[s].size);
        for (int i = 0; i < laid; i++) {
            sheets[s].put(i, cloud.letterAt(place, i));
        }
        return laid;
    }

    // ---- images

    public int image() {
        kept.take(body);
        keeps = true;
        return 1;
    }

    public int undo() {
        if (!keeps) {
            return finding(NONE);
        }
        body.take(kept);
        bodyChanged();
        return body.rowCount;
    }

    public int tear() {
        int was = keeps ? 1 : 0;
        keeps = false;
        return was;
    }

    public int count(int what) {
        switch (what) {
            case 0:
                return body.n;
            case 1:
                return body.rowCount;
            case 2:
                return body.points();
            case 3:
                return tape.length;
            default:
                return finding(BEYOND);
        }
    }

    public int status(int which) {
        if (which < -1 || which >= FINDINGS) {
            return finding(BEYOND);
        }
        if (which >= 0) {
            return found[which];
        }
        int all = 0;
        for (int f = 0; f < FINDINGS; f++) {
            all += found[f];
        }
        return all;
    }

    private int finding(int which) {
        if (which >= 0 && which < FINDINGS) {
            found[which]++;
        }
        return FIRST_FINDING - which;
    }

    /** What is told of points and cells is made anew when it is asked for next. */
    private void bodyChanged() {
        cloud.stale = true;
        cells.stale = true;
    }

    private static boolean within(int v, int most) {
        return v >= -most && v <= most;
    }

    private boolean isPair(int vector, int other) {
        return body.hasLetter(vector) && body.hasLetter(other) && vector != other;
    }

    private static boolean isSheet(int s) {
        return s >= 0 && s < SHEETS;
    }

    private int sheetTrouble(int s) {
        if (!isSheet(s)) {
            return BEYOND;
        }
        return sheets[s].bits == 0 ? MISSING : FINE;
    }

    private int pointTrouble(int s) {
        int trouble = sheetTrouble(s);
        if (trouble != FINE) {
            return trouble;
        }
        return sheets[s].size < body.n ? SIZE : FINE;
    }

    private int smallPointTrouble(int s) {
        int trouble = pointTrouble(s);
        if (trouble != FINE) {
            return trouble;
        }
        for (int i = 0; i < body.n; i++) {
            long v = sheets[s].numbers[i];
            if (v < -MOST_IN_POINT || v > MOST_IN_POINT) {
                return STATE;
            }
        }
        return FINE;
    }

    private void readSpot(Sheet from) {
        for (int i = 0; i < body.n; i++) {
            spot[i] = (int) from.numbers[i];
        }
    }

    private static int greatestDivisor(int a, int b) {
        int x = a;
        int y = b;
        for (int step = 0; step < MOST_STEPS && y > 0; step++) {
            int rest = x % y;
            x = y;
            y = rest;
        }
        return x;
    }

    private static int pack(int[] at, int n) {
        int packed = 0;
        for (int i = 0; i < n; i++) {
            packed |= (at[i] + MOST_SIDE) << (LETTER_BITS * i);
        }
        return packed;
    }

    private static int unpack(int packed, int letter) {
        return ((packed >> (LETTER_BITS * letter)) & LETTER_MASK) - MOST_SIDE;
    }

    /** One row: its kind, its numbers, and with which sums it holds. */
    private static final class Row {
        int kind = ROW;
        int bound = 0;
        int within = 1;
        final int[] numbers = new int[MOST_LETTERS];

        void begin(int newKind, int newBound, int newWithin) {
            kind = newKind;
            bound = newBound;
            within = newWithin;
            for (int i = 0; i < MOST_LETTERS; i++) {
                numbers[i] = 0;
            }
        }

        void take(Row other) {
            kind = other.kind;
            bound = other.bound;
            within = other.within;
            System.arraycopy(other.numbers, 0, numbers, 0, MOST_LETTERS);
        }

        /** Whether what (0 kind, 1 bound, 2 within, 3 to 6 a number) is a part of a row that may be v. */
        static boolean takesPart(int what, int v) {
            switch (what) {
                case 0:
                    return v >= 0 && v < KINDS;
                case 1:
                    return v >= -MOST_BOUND && v <= MOST_BOUND;
                case 2:
                    return v >= 1 && v <= MOST_WITHIN;
                case 3:
                case 4:
                case 5:
                case 6:
                    return v >= -MOST_SIDE && v <= MOST_SIDE;
                default:
                    return false;
            }
        }

        int part(int what) {
            switch (what) {
                case 0:
                    return kind;
                case 1:
                    return bound;
                case 2:
                    return within;
                default:
                    return what >= 3 && what < 3 + MOST_LETTERS ? numbers[what - 3] : 0;
            }
        }

        void setPart(int what, int v) {
            switch (what) {
                case 0:
                    kind = v;
                    break;
                case 1:
                    bound = v;
                    break;
                case 2:
                    within = v;
                    break;
                default:
                    if (what >= 3 && what < 3 + MOST_LETTERS) {
                        numbers[what - 3] = v;
                    }
            }
        }

        static boolean isUnder(int lower, int upper) {
            int at = lower;
            for (int step = 0; step < KINDS && at >= 0 && at < KINDS; step++) {
                if (at == upper) {
                    return true;
                }
                at = UNDER[at];
            }
            return false;
        }

        int sumIn(int[] at, int n) {
            int sum = 0;
            for (int i = 0; i < n; i++) {
                sum += numbers[i] * at[i];
            }
            return sum;
        }

        int sumInPacked(int packed, int n) {
            int sum = 0;
            for (int i = 0; i < n; i++) {
                sum += numbers[i] * unpack(packed, i);
            }
            return sum;
        }

        int leastIn(int[] lows, int[] highs, int n) {
            int sum = 0;
            for (int i = 0; i < n; i++) {
                sum += numbers[i] * (numbers[i] > 0 ? lows[i] : highs[i]);
            }
            return sum;
        }

        int mostIn(int[] lows, int[] highs, int n) {
            int sum = 0;
            for (int i = 0; i < n; i++) {
                sum += numbers[i] * (numbers[i] > 0 ? highs[i] : lows[i]);
            }
            return sum;
        }

        boolean allows(int sum) {
            return allowsAs(kind, sum);
        }

        boolean allowsAs(int asKind, int sum) {
            switch (asKind) {
                case ROW:
                    return sum <= bound;
                case TIE:
                    return sum == bound;
                case BAND:
                    return Math.abs(sum - bound) <= within;
                case COMB:
                    return within > 0 && (sum - bound) % within == 0;
                case OFF:
                    return Math.abs(sum - bound) > within;
                default:
                    return sum >= bound;
            }
        }

        /** DEAD: the row holds with no sum from least to most. */
        boolean isDead(int least, int most) {
            switch (kind) {
                case ROW:
                    return least > bound;
                case TIE:
                    return bound < least || bound > most;
                case BAND:
                    return least > bound + within || most < bound - within;
                case COMB:
                    return within > 0 && least + Math.floorMod(bound - least, within) > most;
                case OFF:
                    return least >= bound - within && most <= bound + within;
                default:
                    return most < bound;
            }
        }

        /** WHOLE: the row holds with each sum from least to most. */
        boolean isWhole(int least, int most) {
            switch (kind) {
                case ROW:
                    return most <= bound;
                case TIE:
                    return least == bound && most == bound;
                case BAND:
                    return least >= bound - within && most <= bound + within;
                case COMB:
                    return within == 1 || (least == most && allows(least));
                case OFF:
                    return most < bound - within || least > bound + within;
                default:
                    return least >= bound;
            }
        }

        /** The least bound with which the row holds with a sum (no sum of a box is beyond 324). */
        int leastBoundFor(int sum) {
            switch (kind) {
                case ROW:
                case TIE:
                    return sum;
                case BAND:
                    return sum - within;
                case COMB:
                    return within > 0 ? -MOST_BOUND + Math.floorMod(sum + MOST_BOUND, within) : sum;
                default:
                    return -MOST_BOUND;
            }
        }
    }

    /** What an image keeps: the letters with their box, the rows, the lattice's vectors. */
    private static final class Body {
        int n = 2;
        final int[] lows = new int[MOST_LETTERS];
        final int[] highs = new int[MOST_LETTERS];
        final Row[] rows = new Row[MOST_ROWS];
        int rowCount = 0;
        final int[][] vectors = new int[MOST_LETTERS][MOST_LETTERS];

        Body() {
            for (int i = 0; i < MOST_LETTERS; i++) {
                highs[i] = 3;
            }
            for (int r = 0; r < MOST_ROWS; r++) {
                rows[r] = new Row();
            }
            resetVectors();
        }

        private void resetVectors() {
            for (int v = 0; v < MOST_LETTERS; v++) {
                for (int i = 0; i < MOST_LETTERS; i++) {
                    vectors[v][i] = v == i ? 1 : 0;
                }
            }
        }

        void take(Body other) {
            n = other.n;
            rowCount = other.rowCount;
            System.arraycopy(other.lows, 0, lows, 0, MOST_LETTERS);
            System.arraycopy(other.highs, 0, highs, 0, MOST_LETTERS);
            for (int r = 0; r < MOST_ROWS; r++) {
                rows[r].take(other.rows[r]);
            }
            for (int v = 0; v < MOST_LETTERS; v++) {
                System.arraycopy(other.vectors[v], 0, vectors[v], 0, MOST_LETTERS);
            }
        }

        boolean hasLetter(int letter) {
            return letter >= 0 && letter < n;
        }

        boolean hasRow(int row) {
            return row >= 0 && row < rowCount;
        }

        int points() {
            return pointsWithLetters(n);
        }

        /** Letters that come get sides from 0 to 3, so each brings four points for one. */
        int pointsWithLetters(int v) {
            int points = 1;
            for (int i = 0; i < v; i++) {
                points *= i < n ? highs[i] - lows[i] + 1 : 4;
            }
            return points;
        }

        int pointsWithSide(int letter, int low, int high) {
            int points = 1;
            for (int i = 0; i < n; i++) {
                points *= i == letter ? high - low + 1 : highs[i] - lows[i] + 1;
            }
            return points;
        }

        void setLetters(int v) {
            if (v == n) {
                return;
            }
            for (int i = n; i < v; i++) {
                lows[i] = 0;
                highs[i] = 3;
            }
            n = v;
            resetVectors();
        }

        void setSide(int letter, int low, int high) {
            lows[letter] = low;
            highs[letter] = high;
        }

        /** The caller has seen that there is room. */
        Row addRow(int kind, int bound, int within) {
            Row added = rows[rowCount];
            added.begin(kind, bound, within);
            rowCount++;
            return added;
        }

        /** The set of rows that don't hold in a point. */
        int brokenIn(int[] at) {
            int broken = 0;
            for (int r = 0; r < rowCount; r++) {
                if (!rows[r].allows(rows[r].sumIn(at, n))) {
                    broken |= 1 << r;
                }
            }
            return broken;
        }
    }

    /**
     * All points of the box in their order, each as one number: its letters packed, and above them
     * the set of rows that don't hold in it. Made once for a body, however many calls ask for it.
     */
    private static final class Cloud {
        boolean stale = true;
        int size = 0;
        int inside = 0;
        int greatest = 0;
        int least = 0;
        int firstGreatest = 0;
        int thinDirection = 0;
        int thinSpan = -1;
        private final int[] spots = new int[MOST_POINTS];
        private final int[] at = new int[MOST_LETTERS];
        private final int[] weights = new int[MOST_LETTERS];

        void refresh(Body body) {
            if (!stale) {
                return;
            }
            stale = false;
            inside = 0;
            thinSpan = -1;
            size = Math.min(body.points(), MOST_POINTS);
            System.arraycopy(body.lows, 0, at, 0, MOST_LETTERS);
            for (int place = 0; place < size; place++) {
                int broken = body.brokenIn(at);
                inside += broken == 0 ? 1 : 0;
                spots[place] = pack(at, body.n) | (broken << POINT_BITS);
                stepOn(body);
            }
        }

        private void stepOn(Body body) {
            for (int i = body.n - 1; i >= 0; i--) {
                if (at[i] < body.highs[i]) {
                    at[i]++;
                    return;
                }
                at[i] = body.lows[i];
            }
        }

        private int brokenAt(int place) {
            return spots[place] >> POINT_BITS;
        }

        boolean isIn(int place) {
            return brokenAt(place) == 0;
        }

        int letterAt(int place, int letter) {
            return unpack(spots[place], letter);
        }

        void readInto(int place, int[] target, int n) {
            for (int i = 0; i < n; i++) {
                target[i] = letterAt(place, i);
            }
        }

        /** The place of the k-th point that is in, -1 if there is none. */
        int placeOf(int k) {
            if (k < 0 || k >= inside) {
                return -1;
            }
            int ahead = 0;
            for (int place = 0; place < size; place++) {
                if (isIn(place)) {
                    if (ahead == k) {
                        return place;
                    }
                    ahead++;
                }
            }
            return -1;
        }

        static int directions(int n) {
            int all = 1;
            for (int i = 0; i < n; i++) {
                all *= 5;
            }
            return all;
        }

        /** Looks at all points that are in by a direction, but no further once the span is no less than enough. */
        void sweep(int direction, int n, int enough) {
            int digits = direction;
            for (int i = n - 1; i >= 0; i--) {
                weights[i] = digits % 5 - 2;
                digits /= 5;
            }
            int number = 0;
            for (int place = 0; place < size; place++) {
                if (!isIn(place)) {
                    continue;
                }
                int sum = weightAt(place, n);
                if (number == 0 || sum > greatest) {
                    greatest = sum;
                    firstGreatest = number;
                }
                if (number == 0 || sum < least) {
                    least = sum;
                }
                if (greatest - least >= enough) {
                    return;
                }
                number++;
            }
        }

        private int weightAt(int place, int n) {
            int packed = spots[place];
            int sum = 0;
            for (int i = 0; i < n; i++) {
                sum += weights[i] * unpack(packed, i);
            }
            return sum;
        }

        /**
         * The direction of 0 alone is the middle one, and those above it are those below it turned
         * round, with the same spans: so the least one lies below the middle. The dearest of all
         * calls, so what was found for the same points is found no second time.
         */
        void findThin(int n) {
            if (thinSpan >= 0) {
                return;
            }
            int middle = directions(n) / 2;
            thinSpan = VERY_MANY;
            for (int direction = 0; direction < middle; direction++) {
                sweep(direction, n, thinSpan);
                if (greatest - least < thinSpan) {
                    thinSpan = greatest - least;
                    thinDirection = direction;
                }
            }
        }

        int sumOfLetter(int letter) {
            int sum = 0;
            for (int place = 0; place < size; place++) {
                if (isIn(place)) {
                    sum += letterAt(place, letter);
                }
            }
            return sum;
        }

        /** The nearest point outside the box is straight across one of its sides. */
        int squareToSides(int place, Body body) {
            int nearest = VERY_MANY;
            for (int i = 0; i < body.n; i++) {
                int below = letterAt(place, i) - body.lows[i] + 1;
                int above = body.highs[i] - letterAt(place, i) + 1;
                int step = Math.min(below, above);
                nearest = Math.min(nearest, step * step);
            }
            return nearest;
        }

        int squareToBroken(int place, int n) {
            int nearest = VERY_MANY;
            for (int other = 0; other < size; other++) {
                if (!isIn(other)) {
                    nearest = Math.min(nearest, squareBetween(place, other, n));
                }
            }
            return nearest;
        }

        private int squareBetween(int place, int other, int n) {
            int square = 0;
            for (int i = 0; i < n; i++) {
                int step = letterAt(place, i) - letterAt(other, i);
                square += step * step;
            }
            return square;
        }

        /** Without the rows that don't hold in a point it is in: so the fewest are those of one point. */
        int fewestBroken() {
            int best = (1 << MOST_ROWS) - 1;
            for (int place = 0; place < size; place++) {
                int broken = brokenAt(place);
                int more = Integer.bitCount(broken) - Integer.bitCount(best);
                if (more < 0 || (more == 0 && broken < best)) {
                    best = broken;
                }
            }
            return best;
        }

        /** Whether all rows but one hold at a place. */
        private boolean isInWithout(int place, int row) {
            return (brokenAt(place) & ~(1 << row)) == 0;
        }

        int insideWithout(int row) {
            int freed = 0;
            for (int place = 0; place < size; place++) {
                freed += isInWithout(place, row) ? 1 : 0;
            }
            return freed;
        }

        int insideAs(Body body, int row, int kind) {
            Row asked = body.rows[row];
            int in = 0;
            for (int place = 0; place < size; place++) {
                if (isInWithout(place, row) && asked.allowsAs(kind, asked.sumInPacked(spots[place], body.n))) {
                    in++;
                }
            }
            return in;
        }

        /** The least bound of a row with which a point is in; one that is too great, if there is none. */
        int leastBound(Body body, int row) {
            Row asked = body.rows[row];
            int lowest = MOST_BOUND + 1;
            for (int place = 0; place < size; place++) {
                if (isInWithout(place, row)) {
                    lowest = Math.min(lowest, asked.leastBoundFor(asked.sumInPacked(spots[place], body.n)));
                }
            }
            return lowest;
        }
    }

    /** The leaves of the tree in order, each as one number: lows, highs, and the least dead row and 1. */
    private static final class Tree {
        /** A box of 4096 points is parted fifteen times at most, one under the other. */
        private static final int MOST_DEPTH = 24;
        private static final int ALL_WHOLE = -1;
        private static final int OPEN = -2;

        boolean stale = true;
        int cellCount = 0;
        int leafCount = 0;
        int deadCount = 0;
        int deep = 0;
        private final long[] leaves = new long[MOST_POINTS];
        private final int[] lows = new int[MOST_LETTERS];
        private final int[] highs = new int[MOST_LETTERS];

        void refresh(Body body) {
            if (!stale) {
                return;
            }
            stale = false;
            cellCount = 0;
            leafCount = 0;
            deadCount = 0;
            deep = 0;
            System.arraycopy(body.lows, 0, lows, 0, MOST_LETTERS);
            System.arraycopy(body.highs, 0, highs, 0, MOST_LETTERS);
            grow(body, 0);
        }

        private void grow(Body body, int depth) {
            cellCount++;
            int verdict = verdictOf(body);
            if (verdict != OPEN || depth >= MOST_DEPTH) {
                addLeaf(verdict, depth, body.n);
                return;
            }
            int letter = widest(body.n);
            int low = lows[letter];
            int high = highs[letter];
            int middle = Math.floorDiv(low + high, 2);
            highs[letter] = middle;
            grow(body, depth + 1);
            highs[letter] = high;
            lows[letter] = middle + 1;
            grow(body, depth + 1);
            lows[letter] = low;
        }

        /** The least row that is dead in the cell, ALL_WHOLE, or OPEN. */
        private int verdictOf(Body body) {
            int verdict = ALL_WHOLE;
            for (int r = 0; r < body.rowCount; r++) {
                Row asked = body.rows[r];
                int least = asked.leastIn(lows, highs, body.n);
                int most = asked.mostIn(lows, highs, body.n);
                if (asked.isDead(least, most)) {
                    return r;
                }
                if (!asked.isWhole(least, most)) {
                    verdict = OPEN;
                }
            }
            return verdict;
        }

        private int widest(int n) {
            int best = 0;
            for (int i = 1; i < n; i++) {
                if (highs[i] - lows[i] > highs[best] - lows[best]) {
                    best = i;
                }
            }
            return best;
        }

        private void addLeaf(int verdict, int depth, int n) {
            if (leafCount >= MOST_POINTS) {
                return;
            }
            long sides = pack(lows, n) | ((long) pack(highs, n) << POINT_BITS);
            leaves[leafCount] = sides | ((long) (verdict + 1) << (2 * POINT_BITS));
            leafCount++;
            deadCount += verdict >= 0 ? 1 : 0;
            deep = Math.max(deep, depth);
        }

        boolean hasLeaf(int k) {
            return k >= 0 && k < leafCount;
        }

        int lowOf(int k, int letter) {
            return unpack((int) (leaves[k] & POINT_MASK), letter);
        }

        int highOf(int k, int letter) {
            return unpack((int) ((leaves[k] >> POINT_BITS) & POINT_MASK), letter);
        }

        int deadRow(int k) {
            return (int) (leaves[k] >> (2 * POINT_BITS)) - 1;
        }

        int pointsIn(int k, int n) {
            int points = 1;
            for (int i = 0; i < n; i++) {
                points *= highOf(k, i) - lowOf(k, i) + 1;
            }
            return points;
        }

        /** What a proof says of a leaf: how many points it has, below 0 if it is dead. */
        int proofOf(int k, int n) {
            int points = pointsIn(k, n);
            return deadRow(k) < 0 ? points : -points;
        }

        /** The leaf in which a point lies, -1 if it isn't of the box. */
        int leafWith(long[] numbers, int n) {
            for (int k = 0; k < leafCount; k++) {
                if (isWith(k, numbers, n)) {
                    return k;
                }
            }
            return -1;
        }

        private boolean isWith(int k, long[] numbers, int n) {
            for (int i = 0; i < n; i++) {
                if (numbers[i] < lowOf(k, i) || numbers[i] > highOf(k, i)) {
                    return false;
                }
            }
            return true;
        }
    }

    /** The lattice's one form, and what is found by it. */
    private static final class Lattice {
        /** The longest base vector has squares 64 in all, so no letter of the shortest is beyond 8. */
        private static final int MOST_SHORT = 8;

        final long[][] rows = new long[MOST_LETTERS][MOST_LETTERS];
        final int[] shortVector = new int[MOST_LETTERS];
        int shortSquare = 0;
        private int n = 0;
        private final long[] rest = new long[MOST_LETTERS];
        private final long[] times = new long[MOST_LETTERS];
        private final int[] trial = new int[MOST_LETTERS];

        /** Makes the form of a body's vectors: their determinant (0: there is no form). */
        int makeForm(Body body) {
            n = body.n;
            for (int v = 0; v < n; v++) {
                for (int i = 0; i < n; i++) {
                    rows[v][i] = body.vectors[v][i];
                }
            }
            long determinant = 1;
            for (int c = 0; c < n; c++) {
                for (int r = c + 1; r < n; r++) {
                    determinant *= clearBelow(c, r);
                }
                if (rows[c][c] < 0) {
                    addTimes(c, c, -2);
                    determinant = -determinant;
                }
                determinant *= rows[c][c];
                if (determinant == 0) {
                    return 0;
                }
            }
            lowerAbove();
            return (int) determinant;
        }

        /** Mixes and swaps two vectors till r has 0 in letter c: the sign that this gives the determinant. */
        private int clearBelow(int c, int r) {
            int sign = 1;
            for (int step = 0; step < MOST_STEPS && rows[r][c] != 0; step++) {
                addTimes(r, c, -(rows[c][c] / rows[r][c]));
                for (int i = 0; i < n; i++) {
                    long was = rows[c][i];
                    rows[c][i] = rows[r][i];
                    rows[r][i] = was;
                }
                sign = -sign;
            }
            return sign;
        }

        private void addTimes(int from, int to, long k) {
            for (int i = 0; i < n; i++) {
                rows[to][i] += k * rows[from][i];
            }
        }

        /** From the last vector up, so that what is added is small already and no number grows large. */
        private void lowerAbove() {
            for (int v = n - 2; v >= 0; v--) {
                for (int c = v + 1; c < n; c++) {
                    if (rows[c][c] > 0) {
                        addTimes(c, v, -Math.floorDiv(rows[v][c], rows[c][c]));
                    }
                }
            }
        }

        boolean contains(int[] at) {
            for (int i = 0; i < n; i++) {
                rest[i] = at[i];
            }
            for (int c = 0; c < n; c++) {
                if (rows[c][c] <= 0 || rest[c] % rows[c][c] != 0) {
                    return false;
                }
                long k = rest[c] / rows[c][c];
                for (int i = c; i < n; i++) {
                    rest[i] -= k * rows[c][i];
                }
            }
            return true;
        }

        /** Finds the shortest vector; the form must stand. */
        void findShort(Body body) {
            shortSquare = VERY_MANY;
            for (int v = 0; v < n; v++) {
                int square = 0;
                for (int i = 0; i < n; i++) {
                    square += body.vectors[v][i] * body.vectors[v][i];
                }
                shortSquare = Math.min(shortSquare, square);
            }
            // a base vector may itself be the shortest, and only what is shorter than this is taken
            shortSquare++;
            tryLetter(0, 0);
        }

        /** Tries greater letters first, so that of several shortest ones the due one comes first. */
        private void tryLetter(int letter, int square) {
            if (letter >= n) {
                if (square > 0 && square < shortSquare) {
                    shortSquare = square;
                    System.arraycopy(trial, 0, shortVector, 0, MOST_LETTERS);
                }
                return;
            }
            long pivot = rows[letter][letter];
            if (pivot <= 0) {
                return;
            }
            long brought = 0;
            for (int v = 0; v < letter; v++) {
                brought += times[v] * rows[v][letter];
            }
            for (int x = MOST_SHORT; x >= -MOST_SHORT; x--) {
                if (square + x * x < shortSquare && (x - brought) % pivot == 0) {
                    times[letter] = (x - brought) / pivot;
                    trial[letter] = x;
                    tryLetter(letter + 1, square + x * x);
                }
            }
        }
    }

    /** The tape, and how a text is read from it. */
    private static final class Reader {
        private static final int END = 0;
        private static final int WORD = 1;
        private static final int NUMBER = 2;
        private static final int SEMICOLON = 3;
        private static final int MINUS = 4;
        private static final int STRANGE = 5;
        private static final int MOST_NUMBER = 999;

        int length = 0;
        private final byte[] bytes = new byte[MOST_BYTES];
        /** The token that is looked at: its sort, its first byte, the byte behind it, its number. */
        private int sort = END;
        private int first = 0;
        private int behind = 0;
        private int value = 0;

        void add(byte b) {
            if (length < MOST_BYTES) {
                bytes[length] = b;
                length++;
            }
        }

        /**
         * Reads the whole tape into a body: how many items, or -1 less the fault. Whatever can't
         * stand is still the token that is looked at when a reading method answers false.
         */
        int read(Body draft) {
            behind = 0;
            nextToken();
            for (int items = 1; items <= MOST_BYTES; items++) {
                if (!readItem(draft)) {
                    return -1 - first;
                }
                if (sort == END) {
                    return items;
                }
                if (sort != SEMICOLON) {
                    return -1 - first;
                }
                nextToken();
            }
            return -1 - first;
        }

        /** A number that is too great stays just above the greatest, however many digits it has. */
        private void nextToken() {
            first = behind;
            while (first < length && bytes[first] == ' ') {
                first++;
            }
            sort = sortAt(first);
            value = 0;
            behind = first;
            int most = sort == WORD || sort == NUMBER ? length : Math.min(first + 1, length);
            while (behind < most && sortAt(behind) == sort) {
                if (sort == NUMBER) {
                    value = Math.min(value * 10 + bytes[behind] - '0', MOST_NUMBER + 1);
                }
                behind++;
            }
        }

        /** The sort of token that a byte begins, or is a part of. */
        private int sortAt(int place) {
            if (place < 0 || place >= length) {
                return END;
            }
            byte b = bytes[place];
            if (b >= 'a' && b <= 'z') {
                return WORD;
            }
            if (b >= '0' && b <= '9') {
                return NUMBER;
            }
            if (b == ';') {
                return SEMICOLON;
            }
            return b == '-' ? MINUS : STRANGE;
        }

        private boolean isWord(String word) {
            if (sort != WORD || behind - first != word.length()) {
                return false;
            }
            for (int i = 0; i < word.length(); i++) {
                if (bytes[first + i] != word.charAt(i)) {
                    return false;
                }
            }
            return true;
        }

        private int kindOfWord() {
            if (isWord("row")) {
                return ROW;
            }
            if (isWord("tie")) {
                return TIE;
            }
            if (isWord("band")) {
                return BAND;
            }
            if (isWord("comb")) {
                return COMB;
            }
            if (isWord("off")) {
                return OFF;
            }
            return isWord("least") ? LEAST : -1;
        }

        /** Whether the token is a number from lowest to highest; it stays the token. */
        private boolean seesNumber(int lowest, int highest) {
            return sort == NUMBER && value >= lowest && value <= highest;
        }

        /** Like seesNumber, but goes over a - ahead of the number, and makes the number one below 0 then. */
        private boolean seesSigned(int lowest, int highest) {
            boolean minus = sort == MINUS;
            if (minus) {
                nextToken();
            }
            if (sort != NUMBER) {
                return false;
            }
            value = minus ? -value : value;
            return value >= lowest && value <= highest;
        }

        private boolean readItem(Body draft) {
            if (isWord("letters")) {
                return readLetters(draft);
            }
            if (isWord("box")) {
                return readBox(draft);
            }
            int kind = kindOfWord();
            return kind >= 0 && readRow(draft, kind);
        }

        private boolean readLetters(Body draft) {
            nextToken();
            if (!seesNumber(1, MOST_LETTERS) || draft.pointsWithLetters(value) > MOST_POINTS) {
                return false;
            }
            draft.setLetters(value);
            nextToken();
            return true;
        }

        private boolean readBox(Body draft) {
            nextToken();
            if (!seesNumber(0, draft.n - 1)) {
                return false;
            }
            int letter = value;
            nextToken();
            if (!seesSigned(-MOST_SIDE, MOST_SIDE)) {
                return false;
            }
            int low = value;
            nextToken();
            if (!seesSigned(low, MOST_SIDE) || draft.pointsWithSide(letter, low, value) > MOST_POINTS) {
                return false;
            }
            draft.setSide(letter, low, value);
            nextToken();
            return true;
        }

        private boolean readRow(Body draft, int kind) {
            if (draft.rowCount >= MOST_ROWS) {
                return false;
            }
            Row added = draft.addRow(kind, 0, 1);
            nextToken();
            for (int i = 0; i < draft.n; i++) {
                if (!seesSigned(-MOST_SIDE, MOST_SIDE)) {
                    return false;
                }
                added.numbers[i] = value;
                nextToken();
            }
            if (isWord("bound")) {
                nextToken();
                if (!seesSigned(-MOST_BOUND, MOST_BOUND)) {
                    return false;
                }
                added.bound = value;
                nextToken();
            }
            if (isWord("within")) {
                nextToken();
                if (!seesNumber(1, MOST_WITHIN)) {
                    return false;
                }
                added.within = value;
                nextToken();
            }
            return true;
        }
    }

    /** A sheet: a row of numbers of so many bits (0: it is missing). */
    private static final class Sheet {
        int bits = 0;
        int size = 0;
        final long[] numbers = new long[MOST_NUMBERS];

        void begin(int newBits, int newSize) {
            bits = newBits;
            size = newSize;
            for (int i = 0; i < MOST_NUMBERS; i++) {
                numbers[i] = 0;
            }
        }

        void put(int i, long v) {
            if (bits == 8) {
                numbers[i] = (byte) v;
            } else if (bits == 16) {
                numbers[i] = (short) v;
            } else {
                numbers[i] = v;
            }
        }

        boolean hasRange(int from, int many) {
            return from >= 0 && many >= 0 && from <= size && many <= size - from;
        }
    }
}
