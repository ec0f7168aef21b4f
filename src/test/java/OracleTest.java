import java.util.Random;

/**
 * All promises: runs of calls by chance (always the same ones), each answer compared with the
 * oracle's. Small boxes come most often, as the oracle tries all that there is; some are great.
 */
public final class OracleTest {
    private static final int RUNS = 700;
    private static final int CALLS = 200;

    private final Random chance;
    private final ThinBodies x = new ThinBodies();
    private final Oracle o = new Oracle();
    private final boolean great;
    private final StringBuilder said = new StringBuilder();
    private boolean wrong = false;

    private OracleTest(int seed) {
        chance = new Random(seed);
        great = seed % 50 == 0;
    }

    public static void main(String[] args) {
        for (int seed = 0; seed < RUNS; seed++) {
            new OracleTest(seed).run(seed);
        }
        Checks.end();
    }

    private void run(int seed) {
        grow();
        for (int i = 0; i < CALLS && !wrong; i++) {
            call(chance.nextInt(57));
        }
        if (wrong) {
            System.out.println("run " + seed + ":" + said);
        }
    }

    private void same(String call, long got, long want) {
        said.append("\n  ").append(call).append(" = ").append(got);
        Checks.due(call, got, want);
        wrong |= got != want;
    }

    /** A number from least to most, or, once in a while, one just beside, or far off. */
    private int some(int least, int most) {
        int kind = chance.nextInt(60);
        if (kind == 0) {
            return least - 1;
        }
        if (kind == 1) {
            return most + 1;
        }
        if (kind == 2) {
            return chance.nextBoolean() ? Integer.MIN_VALUE : Integer.MAX_VALUE;
        }
        return least + chance.nextInt(most - least + 1);
    }

    private int within(int least, int most) {
        return least + chance.nextInt(most - least + 1);
    }

    private void grow() {
        int n = within(1, 4);
        same("letters", x.letters(n), o.letters(n));
        for (int i = 0; i < n; i++) {
            side(i);
        }
        int rows = within(0, 4);
        for (int r = 0; r < rows; r++) {
            newRow();
        }
        lattice();
    }

    private void side(int letter) {
        int wide = great ? 9 : within(0, 4);
        int low = within(-9, 9 - wide);
        same("box", x.box(letter, low, low + wide), o.box(letter, low, low + wide));
    }

    private void newRow() {
        int kind = within(0, 5);
        int bound = within(-15, 15);
        int within = chance.nextInt(6) == 0 ? within(1, 99) : within(1, 6);
        same("row " + kind + " " + bound + " " + within, x.row(kind, bound, within), o.row(kind, bound, within));
        int row = o.count(1) - 1;
        for (int i = 0; i < 4; i++) {
            int v = chance.nextInt(3) == 0 ? within(-9, 9) : within(-2, 2);
            same("change " + row + " " + (3 + i) + " " + v, x.change(row, 3 + i, v), o.change(row, 3 + i, v));
        }
        same("count", x.count(1), o.count(1));
    }

    private void lattice() {
        int n = o.count(0);
        for (int v = 0; v < n; v++) {
            for (int i = 0; i < n; i++) {
                int to = within(-4, 4);
                same("base " + v + " " + i + " " + to, x.base(v, i, to), o.base(v, i, to));
            }
        }
    }

    private void tellText() {
        String text = new OracleTexts(chance).text(o.count(0));
        for (int i = 0; i < text.length(); i++) {
            same("feed " + text.charAt(i), x.feed(text.charAt(i), 1), o.feed(text.charAt(i), 1));
        }
        same("text " + text, x.text(), o.text());
    }

    private void tellProof() {
        long[] proof = o.proof();
        int s = within(0, 3);
        int size = Math.min(40, Math.max(0, proof.length + (chance.nextInt(4) == 0 ? within(-2, 2) : 0)));
        same("sheet", x.sheet(s, 64, size), o.sheet(s, 64, size));
        for (int k = 0; k < size && k < proof.length; k++) {
            long v = chance.nextInt(60) == 0 ? -proof[k] : proof[k];
            same("write", x.write(s, k, v), o.write(s, k, v));
        }
        same("judge", x.judge(s), o.judge(s));
    }

    private void tellPoint() {
        int s = within(0, 3);
        int bits = new int[] {8, 16, 64}[within(0, 2)];
        int size = within(0, 5);
        same("sheet", x.sheet(s, bits, size), o.sheet(s, bits, size));
        int far = chance.nextInt(5) == 0 ? 1000 : 4;
        for (int i = 0; i < size; i++) {
            int v = within(-far, far);
            same("write", x.write(s, i, v), o.write(s, i, v));
        }
        same("holds", x.holds(s), o.holds(s));
        same("where", x.where(s), o.where(s));
        same("lies", x.lies(s), o.lies(s));
    }

    private void call(int which) {
        int n = o.count(0);
        int rows = o.count(1);
        same("count", x.count(0), n);
        same("count", x.count(1), rows);
        if (which < 14) {
            change(which, n, rows);
        } else if (which < 29) {
            askPoints(which, n, rows);
        } else if (which < 43) {
            askLattice(which, n);
        } else {
            askRest(which);
        }
    }

    private void change(int which, int n, int rows) {
        int r = some(0, Math.max(0, rows - 1));
        switch (which) {
            case 0:
                int v = some(1, great ? n : 4);
                if (chance.nextInt(4) == 0) {
                    same("letters " + v, x.letters(v), o.letters(v));
                }
                break;
            case 1:
                side(within(0, n - 1));
                break;
            case 2:
                int[] b = {some(0, n - 1), some(-9, 9), some(-9, 9)};
                if (b[2] - b[1] < 6 || great || b[2] > 9) {
                    same("box", x.box(b[0], b[1], b[2]), o.box(b[0], b[1], b[2]));
                }
                break;
            case 3:
                int[] q = {some(0, n - 1), some(0, 1)};
                same("boxOf", x.boxOf(q[0], q[1]), o.boxOf(q[0], q[1]));
                break;
            case 4:
                newRowOrNone();
                break;
            case 5:
                int[] w = {some(0, 5), some(-999, 999), some(1, 99)};
                if (chance.nextInt(4) == 0) {
                    same("row", x.row(w[0], w[1], w[2]), o.row(w[0], w[1], w[2]));
                }
                break;
            case 6:
                int of = some(0, 8);
                same("of " + r + " " + of, x.of(r, of), o.of(r, of));
                break;
            case 7:
            case 8:
                int what = some(0, 6);
                int to = what == 0 ? some(0, 5) : what == 1 ? some(-20, 20) : what == 2 ? some(1, 9) : some(-9, 9);
                same("change " + r + " " + what + " " + to, x.change(r, what, to), o.change(r, what, to));
                break;
            case 9:
                int as = some(0, 5);
                same("as", x.as(r, as), o.as(r, as));
                break;
            case 10:
            case 11:
                same("drop", x.drop(), o.drop());
                break;
            case 12:
                tellText();
                break;
            default:
                tellPoint();
        }
    }

    private void newRowOrNone() {
        if (o.count(1) < 8) {
            newRow();
            return;
        }
        same("row", x.row(0, 0, 1), o.row(0, 0, 1));
    }

    private void askPoints(int which, int n, int rows) {
        int r = some(0, Math.max(0, rows - 1));
        int[] q = {some(0, 20), some(0, n - 1), some(0, 1), some(0, 2), some(0, 3)};
        int direction = some(0, (int) Math.pow(5, n) - 1);
        switch (which) {
            case 14:
                same("many", x.many(), o.many());
                break;
            case 15:
                same("point", x.point(q[0], q[1]), o.point(q[0], q[1]));
                break;
            case 16:
                same("best " + direction, x.best(direction, q[3]), o.best(direction, q[3]));
                break;
            case 17:
                same("thin", x.thin(q[2]), o.thin(q[2]));
                break;
            case 18:
                same("mean", x.mean(q[1], q[2]), o.mean(q[1], q[2]));
                break;
            case 19:
                int k = some(0, Math.max(0, o.many() - 1));
                same("round " + k, x.round(k), o.round(k));
                break;
            case 20:
                same("tree", x.tree(q[4]), o.tree(q[4]));
                break;
            case 21:
            case 22:
                int leaf = some(0, o.tree(2) + o.tree(3) - 1);
                same("leaf " + leaf, x.leaf(leaf, q[3]), o.leaf(leaf, q[3]));
                same("side " + leaf, x.side(leaf, q[1], q[2]), o.side(leaf, q[1], q[2]));
                break;
            case 23:
                tellProof();
                break;
            case 24:
                same("judge", x.judge(q[4]), o.judge(q[4]));
                same("where", x.where(q[4]), o.where(q[4]));
                same("holds", x.holds(q[4]), o.holds(q[4]));
                break;
            case 25:
                same("needs", x.needs(), o.needs());
                break;
            case 26:
                same("without", x.without(), o.without());
                break;
            case 27:
                same("kind " + r, x.kind(r), o.kind(r));
                break;
            default:
                same("boundFor " + r, x.boundFor(r), o.boundFor(r));
        }
    }

    private void askLattice(int which, int n) {
        int[] q = {some(0, n - 1), some(0, n - 1), some(-4, 4), some(-3, 3), some(-1, n - 1), some(0, 3)};
        switch (which) {
            case 29:
                lattice();
                break;
            case 30:
            case 31:
                same("base", x.base(q[0], q[1], q[2]), o.base(q[0], q[1], q[2]));
                break;
            case 32:
                same("baseOf", x.baseOf(q[0], q[1]), o.baseOf(q[0], q[1]));
                break;
            case 33:
            case 34:
                same("mix", x.mix(q[0], q[1], q[3]), o.mix(q[0], q[1], q[3]));
                break;
            case 35:
                same("swap", x.swap(q[0], q[1]), o.swap(q[0], q[1]));
                break;
            case 36:
                same("det", x.det(), o.det());
                break;
            case 37:
            case 38:
                same("form", x.form(q[0], q[1]), o.form(q[0], q[1]));
                break;
            case 39:
            case 40:
                same("shortest", x.shortest(q[4]), o.shortest(q[4]));
                break;
            case 41:
                same("common", x.common(), o.common());
                break;
            default:
                same("lies", x.lies(q[5]), o.lies(q[5]));
        }
    }

    private void askRest(int which) {
        int[] q = {some(0, 3), some(0, 3), some(0, 39), some(0, 39), some(0, 20), some(0, 20)};
        switch (which) {
            case 43:
                int bytes = chance.nextInt();
                int n = some(1, 4);
                same("feed", x.feed(bytes, n), o.feed(bytes, n));
                break;
            case 44:
                same("wipe", x.wipe(), o.wipe());
                break;
            case 45:
                same("text", x.text(), o.text());
                break;
            case 46:
                int bits = new int[] {0, 8, 16, 64, 32}[within(0, 4)];
                int size = some(0, 40);
                same("sheet", x.sheet(q[0], bits, size), o.sheet(q[0], bits, size));
                break;
            case 47:
            case 48:
                long v = chance.nextLong() >> within(0, 63);
                same("write", x.write(q[0], q[2], v), o.write(q[0], q[2], v));
                break;
            case 49:
                same("copy", x.copy(q[0], q[2], q[1], q[3], q[4]), o.copy(q[0], q[2], q[1], q[3], q[4]));
                break;
            case 50:
                same("lays", x.lays(q[0], q[4]), o.lays(q[0], q[4]));
                break;
            case 51:
                same("image", x.image(), o.image());
                break;
            case 52:
                same("undo", x.undo(), o.undo());
                break;
            case 53:
                if (chance.nextInt(3) == 0) {
                    same("tear", x.tear(), o.tear());
                }
                break;
            case 54:
                int what = some(0, 3);
                same("count", x.count(what), o.count(what));
                break;
            default:
                int status = some(-1, 6);
                same("status", x.status(status), o.status(status));
        }
    }
}
