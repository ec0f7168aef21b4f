/**
 * Terms: an act that answers a finding changes nothing but status(). Each finding of each act, told
 * of an object of which every part could change; and each act that only asks, as it changes nothing.
 */
public final class RefusedTest {
    private static final int LEAST = Integer.MIN_VALUE;
    private static final int MOST = Integer.MAX_VALUE;

    public static void main(String[] args) {
        richIsAsTold();
        lettersAndRows();
        points();
        tree();
        whatIsBest();
        lattice();
        texts();
        sheets();
        images();
        asking();
        Checks.end();
    }

    /** The tests below stand on this. */
    private static void richIsAsTold() {
        ThinBodies x = Dump.rich();
        Checks.due("rich: letters", x.count(0), 3);
        Checks.due("rich: rows", x.count(1), 4);
        Checks.due("rich: points of the box", x.count(2), 24);
        Checks.due("rich: bytes", x.count(3), 21);
        Checks.due("rich: many", x.many(), 6);
        Checks.due("rich: det", x.det(), 2);
        Checks.due("rich: findings", x.status(-1), 0);
        Checks.due("rich: the text", x.text(), 1);
        Checks.due("rich: the kept rows", x.undo(), 2);
    }

    private static long noneIn(ThinBodies x) {
        return x.row(1, 1, 1);
    }

    private static long flat(ThinBodies x) {
        return x.base(0, 0, 0);
    }

    private static long eightRows(ThinBodies x) {
        for (int r = 4; r < 8; r++) {
            x.row(r - 3, r, r);
        }
        return 0;
    }

    private static long noRows(ThinBodies x) {
        for (int r = 0; r < 4; r++) {
            x.drop();
        }
        return 0;
    }

    /** 19 by 18 by 3 points: with a fourth letter it would be 4104. */
    private static long wide(ThinBodies x) {
        return x.box(0, -9, 9) + x.box(1, -9, 8) + x.box(2, 0, 2);
    }

    private static void lettersAndRows() {
        for (int v : new int[] {0, 5, -1, LEAST, MOST}) {
            Dump.refused("2 letters(" + v + ")", Checks.BEYOND, x -> x.letters(v));
        }
        Dump.refused("2 letters: full", Checks.FULL, RefusedTest::wide, x -> x.letters(4));
        for (int letter : new int[] {-1, 3, LEAST, MOST}) {
            Dump.refused("3 box: letter " + letter, Checks.BEYOND, x -> x.box(letter, 0, 1));
            Dump.refused("4 boxOf: letter " + letter, Checks.BEYOND, x -> x.boxOf(letter, 0));
        }
        int[][] sides = {{-10, 0}, {0, 10}, {10, 10}, {-10, -10}, {1, 0}, {-8, -9}, {9, 8}, {LEAST, 0}, {0, MOST}, {MOST, LEAST}};
        for (int[] side : sides) {
            Dump.refused("3 box: " + side[0] + " to " + side[1], Checks.BEYOND, x -> x.box(1, side[0], side[1]));
        }
        Dump.refused("3 box: full", Checks.FULL, RefusedTest::wide, x -> x.box(2, -9, 2));
        Dump.refused("4 boxOf: what -1", Checks.BEYOND, x -> x.boxOf(0, -1));
        Dump.refused("4 boxOf: what 2", Checks.BEYOND, x -> x.boxOf(0, 2));
        int[][] rows = {{-1, 0, 1}, {6, 0, 1}, {0, -1000, 1}, {0, 1000, 1}, {0, 0, 0}, {0, 0, 100}, {LEAST, 0, 1}, {0, MOST, 1}, {0, 0, LEAST}};
        for (int[] row : rows) {
            Dump.refused("5 row", Checks.BEYOND, x -> x.row(row[0], row[1], row[2]));
        }
        Dump.refused("5 row: full", Checks.FULL, RefusedTest::eightRows, x -> x.row(0, 0, 1));
        for (int row : new int[] {-1, 4, 8, LEAST, MOST}) {
            Dump.refused("6 of: row " + row, Checks.BEYOND, x -> x.of(row, 0));
            Dump.refused("7 change: row " + row, Checks.BEYOND, x -> x.change(row, 1, 3));
            Dump.refused("8 as: row " + row, Checks.BEYOND, x -> x.as(row, 0));
        }
        for (int what : new int[] {-1, 7, 9, LEAST, MOST}) {
            Dump.refused("6 of: what " + what, Checks.BEYOND, x -> x.of(0, what == 7 ? 10 : what));
            Dump.refused("7 change: what " + what, Checks.BEYOND, x -> x.change(0, what, 1));
        }
        int[][] changes = {{0, -1}, {0, 6}, {1, -1000}, {1, 1000}, {2, 0}, {2, 100}, {3, -10}, {3, 10}, {6, -10}, {6, 10}, {4, MOST}, {5, LEAST}};
        for (int[] change : changes) {
            Dump.refused("7 change: what " + change[0] + " to " + change[1], Checks.BEYOND, x -> x.change(2, change[0], change[1]));
        }
        Dump.refused("8 as: kind -1", Checks.BEYOND, x -> x.as(0, -1));
        Dump.refused("8 as: kind 6", Checks.BEYOND, x -> x.as(0, 6));
        Dump.refused("8 as: an off as a tie", Checks.KIND, x -> x.as(0, 1));
        Dump.refused("9 drop", Checks.NONE, RefusedTest::noRows, x -> x.drop());
    }

    private static void points() {
        for (int letter : new int[] {-1, 3, LEAST, MOST}) {
            Dump.refused("11 point: letter " + letter, Checks.BEYOND, x -> x.point(0, letter));
            Dump.refused("15 mean: letter " + letter, Checks.BEYOND, x -> x.mean(letter, 0));
        }
        for (int k : new int[] {-1, 6, LEAST, MOST}) {
            Dump.refused("11 point: k " + k, Checks.NONE, x -> x.point(k, 0));
            Dump.refused("16 round: k " + k, Checks.NONE, x -> x.round(k));
        }
        pointsOfSheets("12 holds", x -> x.holds(-1), x -> x.holds(4), x -> x.holds(2), x -> x.holds(1));
        Dump.refused("12 holds: state", Checks.STATE, x -> x.holds(3));
        for (int direction : new int[] {-1, 125, LEAST, MOST}) {
            Dump.refused("13 best: direction " + direction, Checks.BEYOND, x -> x.best(direction, 0));
        }
        Dump.refused("13 best: what -1", Checks.BEYOND, x -> x.best(0, -1));
        Dump.refused("13 best: what 3", Checks.BEYOND, x -> x.best(0, 3));
        Dump.refused("13 best: none", Checks.NONE, RefusedTest::noneIn, x -> x.best(0, 0));
        Dump.refused("14 thin: what -1", Checks.BEYOND, x -> x.thin(-1));
        Dump.refused("14 thin: what 2", Checks.BEYOND, x -> x.thin(2));
        Dump.refused("14 thin: none", Checks.NONE, RefusedTest::noneIn, x -> x.thin(0));
        Dump.refused("15 mean: part -1", Checks.BEYOND, x -> x.mean(0, -1));
        Dump.refused("15 mean: part 2", Checks.BEYOND, x -> x.mean(0, 2));
        Dump.refused("15 mean: none", Checks.NONE, RefusedTest::noneIn, x -> x.mean(0, 0));
    }

    /** What an act with a point of a sheet refuses: sheets -1 and 4, one that is missing, one that is too small. */
    private static void pointsOfSheets(String act, Dump.Act below, Dump.Act above, Dump.Act missing, Dump.Act small) {
        Dump.refused(act + ": sheet -1", Checks.BEYOND, below);
        Dump.refused(act + ": sheet 4", Checks.BEYOND, above);
        Dump.refused(act + ": missing", Checks.MISSING, missing);
        Dump.refused(act + ": size", Checks.SIZE, small);
    }

    private static void tree() {
        Dump.refused("17 tree: what -1", Checks.BEYOND, x -> x.tree(-1));
        Dump.refused("17 tree: what 4", Checks.BEYOND, x -> x.tree(4));
        Dump.refused("18 leaf: what -1", Checks.BEYOND, x -> x.leaf(0, -1));
        Dump.refused("18 leaf: what 3", Checks.BEYOND, x -> x.leaf(0, 3));
        int leaves = (Dump.rich().tree(0) + 1) / 2;
        for (int k : new int[] {-1, leaves, LEAST, MOST}) {
            Dump.refused("18 leaf: k " + k, Checks.NONE, x -> x.leaf(k, 0));
            Dump.refused("19 side: k " + k, Checks.NONE, x -> x.side(k, 0, 0));
        }
        for (int letter : new int[] {-1, 3, LEAST, MOST}) {
            Dump.refused("19 side: letter " + letter, Checks.BEYOND, x -> x.side(0, letter, 0));
        }
        Dump.refused("19 side: what -1", Checks.BEYOND, x -> x.side(0, 0, -1));
        Dump.refused("19 side: what 2", Checks.BEYOND, x -> x.side(0, 0, 2));
        pointsOfSheets("20 where", x -> x.where(-1), x -> x.where(4), x -> x.where(2), x -> x.where(1));
        Dump.refused("20 where: none", Checks.NONE, x -> x.where(3));
        Dump.refused("21 judge: sheet -1", Checks.BEYOND, x -> x.judge(-1));
        Dump.refused("21 judge: sheet 4", Checks.BEYOND, x -> x.judge(4));
        Dump.refused("21 judge: missing", Checks.MISSING, x -> x.judge(2));
    }

    private static void whatIsBest() {
        Dump.refused("23 without: none", Checks.NONE, RefusedTest::noRows, x -> x.without());
        for (int row : new int[] {-1, 4, LEAST, MOST}) {
            Dump.refused("24 kind: row " + row, Checks.BEYOND, x -> x.kind(row));
            Dump.refused("25 boundFor: row " + row, Checks.BEYOND, x -> x.boundFor(row));
        }
        Dump.refused("25 boundFor: none", Checks.NONE, RefusedTest::noneIn, x -> x.boundFor(0));
    }

    private static void lattice() {
        for (int i : new int[] {-1, 3, LEAST, MOST}) {
            Dump.refused("26 base: vector " + i, Checks.BEYOND, x -> x.base(i, 0, 2));
            Dump.refused("26 base: letter " + i, Checks.BEYOND, x -> x.base(0, i, 2));
            Dump.refused("27 baseOf: vector " + i, Checks.BEYOND, x -> x.baseOf(i, 0));
            Dump.refused("27 baseOf: letter " + i, Checks.BEYOND, x -> x.baseOf(0, i));
            Dump.refused("28 mix: vector " + i, Checks.BEYOND, x -> x.mix(i, 0, 1));
            Dump.refused("28 mix: other " + i, Checks.BEYOND, x -> x.mix(0, i, 1));
            Dump.refused("29 swap: vector " + i, Checks.BEYOND, x -> x.swap(i, 0));
            Dump.refused("29 swap: other " + i, Checks.BEYOND, x -> x.swap(0, i));
            Dump.refused("31 form: vector " + i, Checks.BEYOND, x -> x.form(i, 0));
            Dump.refused("31 form: letter " + i, Checks.BEYOND, x -> x.form(0, i));
        }
        for (int v : new int[] {-5, 5, LEAST, MOST}) {
            Dump.refused("26 base: v " + v, Checks.BEYOND, x -> x.base(1, 1, v));
        }
        for (int k : new int[] {-4, 4, LEAST, MOST}) {
            Dump.refused("28 mix: k " + k, Checks.BEYOND, x -> x.mix(0, 1, k));
        }
        Dump.refused("28 mix: one and the same", Checks.BEYOND, x -> x.mix(1, 1, 1));
        Dump.refused("28 mix: the first letter would be 6", Checks.STATE, x -> x.mix(0, 2, 1));
        Dump.refused("28 mix: the last letter would be -5, the others may", Checks.STATE, x -> x.mix(1, 2, 2));
        Dump.refused("29 swap: one and the same", Checks.BEYOND, x -> x.swap(2, 2));
        Dump.refused("31 form: none", Checks.NONE, RefusedTest::flat, x -> x.form(0, 0));
        for (int letter : new int[] {-2, 3, LEAST, MOST}) {
            Dump.refused("32 shortest: letter " + letter, Checks.BEYOND, x -> x.shortest(letter));
        }
        Dump.refused("32 shortest: none", Checks.NONE, RefusedTest::flat, x -> x.shortest(-1));
        Dump.refused("33 common: none", Checks.NONE, RefusedTest::flat, x -> x.common());
        pointsOfSheets("34 lies", x -> x.lies(-1), x -> x.lies(4), x -> x.lies(2), x -> x.lies(1));
        Dump.refused("34 lies: state", Checks.STATE, x -> x.lies(3));
        Dump.refused("34 lies: none", Checks.NONE, RefusedTest::flat, x -> x.lies(0));
    }

    private static void texts() {
        for (int n : new int[] {-1, 0, 5, LEAST, MOST}) {
            Dump.refused("35 feed: n " + n, Checks.BEYOND, x -> x.feed('1', n));
        }
        Dump.Act nearlyFull = x -> {
            Checks.feed(x, " ".repeat(97));
            return 0;
        };
        for (int n = 3; n <= 4; n++) {
            int bytes = n;
            Dump.refused("35 feed: 118 bytes and " + n, Checks.FULL, nearlyFull, x -> x.feed('1', bytes));
        }
    }

    private static void sheets() {
        for (int s : new int[] {-1, 4, LEAST, MOST}) {
            Dump.refused("38 sheet: sheet " + s, Checks.BEYOND, x -> x.sheet(s, 8, 1));
            Dump.refused("39 write: sheet " + s, Checks.BEYOND, x -> x.write(s, 0, 1));
            Dump.refused("40 copy: from sheet " + s, Checks.BEYOND, x -> x.copy(s, 0, 0, 0, 1));
            Dump.refused("40 copy: to sheet " + s, Checks.BEYOND, x -> x.copy(0, 0, s, 0, 1));
            Dump.refused("41 lays: sheet " + s, Checks.BEYOND, x -> x.lays(s, 0));
        }
        for (int bits : new int[] {-8, -1, 1, 7, 9, 15, 17, 32, 63, 65, 128, LEAST, MOST}) {
            Dump.refused("38 sheet: bits " + bits, Checks.BEYOND, x -> x.sheet(0, bits, 1));
        }
        for (int bits : new int[] {8, 16, 64}) {
            Dump.refused("38 sheet: -1 of " + bits, Checks.SIZE, x -> x.sheet(0, bits, -1));
            Dump.refused("38 sheet: least of " + bits, Checks.SIZE, x -> x.sheet(2, bits, LEAST));
            Dump.refused("38 sheet: 41 of " + bits, Checks.BEYOND, x -> x.sheet(0, bits, 41));
            Dump.refused("38 sheet: most of " + bits, Checks.BEYOND, x -> x.sheet(2, bits, MOST));
        }
        Dump.refused("39 write: missing", Checks.MISSING, x -> x.write(2, 0, 1));
        for (int i : new int[] {-1, 3, LEAST, MOST}) {
            Dump.refused("39 write: number " + i, Checks.BEYOND, x -> x.write(0, i, 1));
        }
        Dump.refused("40 copy: missing", Checks.MISSING, x -> x.copy(2, 0, 0, 0, 1));
        Dump.refused("40 copy: to missing", Checks.MISSING, x -> x.copy(0, 0, 2, 0, 1));
        Dump.refused("40 copy: 8 bits to 16", Checks.KIND, x -> x.copy(0, 0, 3, 0, 1));
        Dump.refused("40 copy: 64 bits to 8", Checks.KIND, x -> x.copy(1, 0, 0, 0, 1));
        int[][] parts = {{-1, 0, 1}, {0, -1, 1}, {0, 0, -1}, {1, 0, 3}, {0, 1, 3}, {0, 0, 4}, {3, 0, 1}, {0, 3, 1}, {4, 0, 0}, {0, 4, 0},
            {1, 1, MOST}, {MOST, 0, 1}, {0, MOST, 1}, {LEAST, 0, 1}, {0, LEAST, 1}, {0, 0, LEAST}, {MOST, MOST, MOST}};
        for (int[] part : parts) {
            Dump.refused("40 copy: " + part[2] + " from " + part[0] + " to " + part[1], Checks.BEYOND,
                x -> x.sheet(2, 8, 3), x -> x.copy(0, part[0], 2, part[1], part[2]));
        }
        Dump.refused("41 lays: missing", Checks.MISSING, x -> x.lays(2, 0));
        for (int k : new int[] {-1, 6, LEAST, MOST}) {
            Dump.refused("41 lays: k " + k, Checks.NONE, x -> x.lays(3, k));
        }
    }

    private static void images() {
        Dump.refused("43 undo: nothing is kept", Checks.NONE, x -> x.tear(), x -> x.undo());
        for (int what : new int[] {-1, 4, LEAST, MOST}) {
            Dump.refused("45 count: what " + what, Checks.BEYOND, x -> x.count(what));
        }
        for (int which : new int[] {-2, 7, LEAST, MOST}) {
            Dump.refused("46 status: which " + which, Checks.BEYOND, x -> x.status(which));
        }
    }

    /** Acts that only ask: the answers are those of the six points, by hand. */
    private static void asking() {
        Dump.asked("4 boxOf", -2, x -> x.boxOf(0, 0));
        Dump.asked("6 of: most", 6, x -> x.of(2, 8));
        Dump.asked("8 as: a comb as a row", 0, x -> x.as(3, 0));
        Dump.asked("10 many", 6, x -> x.many());
        Dump.asked("11 point", -1, x -> x.point(5, 1));
        Dump.asked("12 holds", 15, x -> x.holds(0));
        Dump.asked("13 best: -2x + y + 2z", 11, x -> x.best((0 * 5 + 3) * 5 + 4, 0));
        Dump.asked("14 thin: -2x - 2y", (0 * 5 + 0) * 5 + 2, x -> x.thin(0));
        Dump.asked("15 mean: 7 by 2", 7, x -> x.mean(2, 0));
        Dump.asked("16 round", 1, x -> x.round(0));
        Dump.asked("17 tree: whole leaves and dead ones have all points", 24, x -> {
            int points = 0;
            for (int k = 0; k < x.tree(2) + x.tree(3); k++) {
                points += x.leaf(k, 1);
            }
            return points;
        });
        Dump.asked("19 side", -2, x -> x.side(0, 0, 0));
        Dump.asked("20 where: the point is in a whole leaf", 1, x -> x.leaf(x.where(0), 0));
        Dump.asked("21 judge: -1 is no proof", 1, x -> x.judge(0));
        Dump.asked("22 needs", 0, x -> x.needs());
        Dump.asked("23 without: the band keeps four out", 2, x -> x.without());
        Dump.asked("24 kind: as a row it would hold in all, too", 0, x -> x.kind(0));
        Dump.asked("25 boundFor: (-2, 0, 3) within 2", -1, x -> x.boundFor(2));
        Dump.asked("27 baseOf", -3, x -> x.baseOf(1, 2));
        Dump.asked("30 det", 2, x -> x.det());
        Dump.asked("31 form", 2, x -> x.form(0, 0));
        Dump.asked("32 shortest", 1, x -> x.shortest(-1));
        Dump.asked("33 common: letter 0 is even", 2, x -> x.common());
        Dump.asked("34 lies: letter 0 is odd", 0, x -> x.lies(0));
        Dump.asked("45 count", 21, x -> x.count(3));
        Dump.asked("46 status", 0, x -> x.status(-1));
    }
}
