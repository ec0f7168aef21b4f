/** Terms 1 and 2, each sentence with its edges: letters, rows, points, directions, cells, the tree, the lattice. */
public final class TermsTest {
    public static void main(String[] args) {
        findings();
        lettersAtFirst();
        numbersThatDontCount();
        rowsHold();
        farSums();
        pointsAreNumbered();
        directions();
        leastAndMost();
        deadOrWhole();
        parted();
        deep();
        vectors();
        forms();
        shorts();
        Checks.end();
    }

    private static void findings() {
        ThinBodies x = new ThinBodies();
        Checks.due("BEYOND", x.letters(0), -1000000001);
        x.box(0, -9, 9);
        x.box(1, -9, 9);
        Checks.due("FULL", x.letters(4), -1000000002);
        x.row(0, 0, 1);
        Checks.due("KIND", x.as(0, 1), -1000000003);
        Checks.due("NONE", x.undo(), -1000000004);
        x.base(0, 0, 4);
        Checks.due("STATE", x.mix(0, 1, 2), -1000000005);
        Checks.due("MISSING", x.judge(0), -1000000006);
        Checks.due("SIZE", x.sheet(0, 8, -1), -1000000007);
        Checks.due("BEYOND as a long", x.write(4, 0, 0), -1000000001L);
        Checks.due("MISSING as a long", x.write(0, 0, 0), -1000000006L);
        int[] due = {2, 1, 1, 1, 1, 2, 1};
        for (int which = 0; which < 7; which++) {
            Checks.due("status " + which, x.status(which), due[which]);
        }
    }

    private static void dueSide(String what, ThinBodies x, int letter, int low, int high) {
        Checks.due(what + ": low of " + letter, x.boxOf(letter, 0), low);
        Checks.due(what + ": high of " + letter, x.boxOf(letter, 1), high);
    }

    private static void lettersAtFirst() {
        ThinBodies x = new ThinBodies();
        Checks.due("2 letters at first", x.letters(4), 2);
        for (int i = 0; i < 4; i++) {
            dueSide("at first, also what comes later", x, i, 0, 3);
        }
        for (int i = 0; i < 4; i++) {
            x.box(i, -5 - i, -5);
        }
        x.letters(2);
        Checks.due("what went doesn't count", x.count(2), 2);
        x.letters(3);
        dueSide("what stays", x, 0, -5, -5);
        dueSide("what stays", x, 1, -6, -5);
        dueSide("what comes later", x, 2, 0, 3);
        x.letters(1);
        x.letters(4);
        dueSide("what stays", x, 0, -5, -5);
        for (int i = 1; i < 4; i++) {
            dueSide("what comes later", x, i, 0, 3);
        }
        for (int n = 1; n <= 4; n++) {
            ThinBodies y = new ThinBodies();
            y.letters(n);
            Checks.due("4 points for each letter", y.count(2), 1 << (2 * n));
            Checks.due("all of them in", y.many(), 1 << (2 * n));
        }
    }

    /** Of letters that there are not: no sum, no leaf, no point of a sheet knows of their numbers. */
    private static void numbersThatDontCount() {
        ThinBodies x = Checks.told("letters 1;row 1 bound 1");
        for (int what = 4; what <= 6; what++) {
            Checks.due("0 at first", x.of(0, what), 0);
            x.change(0, what, 2 - what);
        }
        Checks.lay(x, 0, 1, 50, 50, 50);
        for (int time = 0; time < 2; time++) {
            Checks.due("many", x.many(), 2);
            Checks.due("least", x.of(0, 7), 0);
            Checks.due("most", x.of(0, 8), 3);
            Checks.due("tree", x.tree(0), 3);
            Checks.due("holds", x.holds(0), 1);
            Checks.due("boundFor", x.boundFor(0), 0);
            // the second time they are changed, and don't count either
            for (int what = 4; what <= 6; what++) {
                Checks.due("they stay", x.of(0, what), time == 0 ? 2 - what : 9);
                x.change(0, what, 9);
            }
        }
        x.letters(2);
        Checks.due("number 1 counts now", x.of(0, 8), 3 + 27);
        Checks.due("number 2 doesn't", x.many(), 2);
    }

    /** For a letter from -9 to 9: which are in by one row, from -9 on, 1 for each that is. */
    private static void dueIn(String row, String due) {
        ThinBodies x = Checks.told("letters 1;box 0 -9 9;" + row);
        int k = 0;
        for (int v = -9; v <= 9; v++) {
            boolean in = due.charAt(v + 9) == '1';
            if (in) {
                Checks.due(row + ": point " + k, x.point(k, 0), v);
                k++;
            }
            Checks.lay(x, 0, v);
            Checks.due(row + ": holds in " + v, x.holds(0), in ? 1 : 0);
        }
        Checks.due(row + ": many", x.many(), k);
        Checks.due(row + ": no more", x.point(k, 0), Checks.NONE);
    }

    private static void rowsHold() {
        String none = "0".repeat(19);
        String all = "1".repeat(19);
        dueIn("row 1 bound -10", none);
        dueIn("row 1 bound -9", "1000000000000000000");
        dueIn("row 1 bound 2", "1111111111110000000");
        dueIn("row 1 bound 8", "1111111111111111110");
        dueIn("row 1 bound 9", all);
        dueIn("row -1 bound 2", "0000000111111111111");
        dueIn("row 0 bound 0", all);
        dueIn("row 0 bound -1", none);
        dueIn("tie 1 bound -9", "1000000000000000000");
        dueIn("tie 1 bound 9", "0000000000000000001");
        dueIn("tie 1 bound 10", none);
        dueIn("tie 2 bound 3", none);
        dueIn("tie 2 bound 4", "0000000000010000000");
        dueIn("tie 0 bound 0", all);
        dueIn("least 1 bound -9", all);
        dueIn("least 1 bound -8", "0111111111111111111");
        dueIn("least 1 bound 9", "0000000000000000001");
        dueIn("least 1 bound 10", none);
        dueIn("band 1 bound 2 within 3", "0000000011111110000");
        dueIn("band 1 bound -10 within 1", "1000000000000000000");
        dueIn("band 1 bound -11 within 1", none);
        dueIn("band 1 bound 10 within 1", "0000000000000000001");
        dueIn("band 1 bound 11 within 1", none);
        dueIn("band 1 bound 99 within 99", "0000000001111111111");
        dueIn("off 1 bound 2 within 3", "1111111100000001111");
        dueIn("off 1 bound -10 within 1", "0111111111111111111");
        dueIn("off 1 bound -11 within 1", all);
        dueIn("off 1 bound 10 within 1", "1111111111111111110");
        dueIn("off 1 bound 0 within 9", none);
        dueIn("off 1 bound 0 within 8", "1000000000000000001");
        dueIn("comb 1 bound 2 within 5", "0100001000010000100");
        dueIn("comb 1 bound -1 within 4", "1000100010001000100");
        dueIn("comb 1 bound 3 within 1", all);
        dueIn("comb 1 bound 999 within 99", "0000000000000000001");
        dueIn("comb 1 bound -999 within 99", "1000000000000000000");
        dueIn("comb 1 bound 500 within 99", "0000000000000010000");
        dueIn("comb 1 bound 50 within 99", none);
    }

    /** The greatest sums that a point of a sheet can have: 4 times 9 times 999. */
    private static void farSums() {
        ThinBodies x = Checks.told("letters 4;row 9 9 9 9 bound 999;least 9 9 9 9 bound -999;comb 9 9 9 9 bound 63 within 99");
        Checks.read(x, "off 9 9 9 9 within 99;band 9 9 9 9 within 99;tie 1 1 1 1 bound 999;comb 9 9 9 9 bound 64 within 99");
        // 35964 less 63 is 362 times 99, and 63 less; -35964 less 63 isn't
        Checks.lay(x, 0, 999, 999, 999, 999);
        Checks.due("12 sum 35964", x.holds(0), 2 + 8);
        Checks.lay(x, 0, -999, -999, -999, -999);
        Checks.due("12 sum -35964", x.holds(0), 1 + 8);
        Checks.lay(x, 0, 999, -999, 7, 0);
        Checks.due("12 sum 63", x.holds(0), 1 + 2 + 4 + 16);
        Checks.lay(x, 0, 999, -999, -4, 0);
        Checks.due("12 sum -36: 99 less", x.holds(0), 1 + 2 + 4 + 16);
        Checks.lay(x, 0, 999, 0, 0, 0);
        Checks.due("12 sum 8991, by ones 999: 63 and 99 times 90, and 18", x.holds(0), 2 + 8 + 32);
    }

    private static void pointsAreNumbered() {
        ThinBodies x = Checks.told("letters 4;box 0 -1 0;box 1 -1 0;box 2 -1 0;box 3 -1 0;off 1 1 1 1 bound -2 within 1");
        // in: the sums -4 and 0 alone, so all -1 and all 0
        Checks.due("11 many", x.many(), 2);
        for (int i = 0; i < 4; i++) {
            Checks.due("11 the lesser first", x.point(0, i), -1);
            Checks.due("11 then the greater", x.point(1, i), 0);
        }
        x.drop();
        for (int k = 0; k < 16; k++) {
            for (int i = 0; i < 4; i++) {
                Checks.due("11 letter " + i + " of " + k, x.point(k, i), (k >> (3 - i) & 1) - 1);
            }
        }
        ThinBodies y = Checks.told("tie 1 1 bound 3");
        for (int k = 0; k < 4; k++) {
            Checks.due("11 letter 0 first", y.point(k, 0), k);
            Checks.due("11 letter 1", y.point(k, 1), 3 - k);
        }
    }

    /** In one point with letters 1, 3, 5, 7 each direction's sum tells its digits. */
    private static void directions() {
        int[] at = {1, 3, 5, 7};
        int all = 1;
        for (int n = 1; n <= 4; n++) {
            ThinBodies x = new ThinBodies();
            x.letters(n);
            int most = 0;
            for (int i = 0; i < n; i++) {
                x.box(i, at[i], at[i]);
                most += 2 * at[i];
            }
            all *= 5;
            Checks.due("13 direction 0: all -2", x.best(0, 0), -most);
            Checks.due("13 direction 1: the last letter's -1", x.best(1, 0), -most + at[n - 1]);
            Checks.due("13 the highest digit is letter 0's", x.best(all / 5, 0), -most + 1);
            Checks.due("13 the middle: all 0", x.best(all / 2, 0), 0);
            Checks.due("13 the last: all 2", x.best(all - 1, 0), most);
            Checks.due("13 no more", x.best(all, 0), Checks.BEYOND);
            Checks.due("13 nor below", x.best(-1, 0), Checks.BEYOND);
            Checks.due("13 span of one point", x.best(all - 1, 2), 0);
            Checks.due("13 the first point", x.best(all - 1, 1), 0);
            Checks.due("14 of several the least, not the middle", x.thin(0), 0);
            Checks.due("14 span", x.thin(1), 0);
        }
    }

    private static void leastAndMost() {
        ThinBodies x = Checks.told("letters 4;box 0 9 9;box 1 -9 -9;box 2 -9 -9;box 3 9 9;row 9 -9 -9 9;row -9 9 9 -9");
        Checks.due("6 the greatest sum of all", x.of(0, 7), 324);
        Checks.due("6 the greatest sum of all", x.of(0, 8), 324);
        Checks.due("6 the least sum of all", x.of(1, 7), -324);
        Checks.due("6 the least sum of all", x.of(1, 8), -324);
        ThinBodies y = Checks.told("letters 3;box 0 -3 2;box 1 -4 1;box 2 5 6;row 2 -3 0");
        Checks.due("6 least: -6 and -3", y.of(0, 7), -9);
        Checks.due("6 most: 4 and 12", y.of(0, 8), 16);
        y.change(0, 3, 0);
        y.change(0, 4, 0);
        Checks.due("6 numbers 0", y.of(0, 7), 0);
        Checks.due("6 numbers 0", y.of(0, 8), 0);
        y.change(0, 5, 1);
        Checks.due("6 no letter's side is 0", y.of(0, 7), 5);
        Checks.due("6 no letter's side is 0", y.of(0, 8), 6);
    }

    /** One letter, 0 and 1, with number 3: LEAST 0, MOST 3, and 1 and 2 are whole numbers between. */
    private static void dueTree(String row, int cells, int dead, int whole) {
        ThinBodies x = Checks.told("letters 1;box 0 0 1;" + row);
        Checks.due("17 " + row + ": cells", x.tree(0), cells);
        Checks.due("17 " + row + ": deep", x.tree(1), cells / 2);
        Checks.due("17 " + row + ": dead", x.tree(2), dead);
        Checks.due("17 " + row + ": whole", x.tree(3), whole);
    }

    private static void deadOrWhole() {
        dueTree("row 3 bound -1", 1, 1, 0);
        dueTree("row 3 bound 0", 3, 1, 1);
        dueTree("row 3 bound 2", 3, 1, 1);
        dueTree("row 3 bound 3", 1, 0, 1);
        dueTree("least 3 bound 4", 1, 1, 0);
        dueTree("least 3 bound 3", 3, 1, 1);
        dueTree("least 3 bound 1", 3, 1, 1);
        dueTree("least 3 bound 0", 1, 0, 1);
        dueTree("tie 3 bound -1", 1, 1, 0);
        dueTree("tie 3 bound 0", 3, 1, 1);
        dueTree("tie 3 bound 1", 3, 2, 0);
        dueTree("tie 3 bound 3", 3, 1, 1);
        dueTree("tie 3 bound 4", 1, 1, 0);
        dueTree("tie 0 bound 0", 1, 0, 1);
        dueTree("tie 0 bound 1", 1, 1, 0);
        dueTree("band 3 bound -2 within 1", 1, 1, 0);
        dueTree("band 3 bound -1 within 1", 3, 1, 1);
        dueTree("band 3 bound 1 within 1", 3, 1, 1);
        dueTree("band 3 bound 1 within 2", 1, 0, 1);
        dueTree("band 3 bound 2 within 2", 1, 0, 1);
        dueTree("band 3 bound 4 within 1", 3, 1, 1);
        dueTree("band 3 bound 5 within 1", 1, 1, 0);
        dueTree("off 3 bound -2 within 1", 1, 0, 1);
        dueTree("off 3 bound -1 within 1", 3, 1, 1);
        dueTree("off 3 bound 1 within 1", 3, 1, 1);
        dueTree("off 3 bound 1 within 2", 1, 1, 0);
        dueTree("off 3 bound 2 within 2", 1, 1, 0);
        dueTree("off 3 bound 4 within 1", 3, 1, 1);
        dueTree("off 3 bound 5 within 1", 1, 0, 1);
        dueTree("comb 3 bound 5 within 1", 1, 0, 1);
        // both points hold, but not each whole number between
        dueTree("comb 3 bound 0 within 3", 3, 0, 2);
        dueTree("comb 3 bound 1 within 3", 3, 2, 0);
        dueTree("comb 3 bound 1 within 99", 3, 2, 0);
        dueTree("comb 3 bound 3 within 99", 3, 1, 1);
        dueTree("comb 3 bound 4 within 99", 1, 1, 0);
        dueTree("comb 3 bound -1 within 99", 1, 1, 0);
        dueTree("comb 3 bound -99 within 99", 3, 1, 1);
        dueTree("comb 3 bound -95 within 99", 1, 1, 0);
        dueTree("comb 3 bound -96 within 99", 3, 1, 1);
        dueTree("comb 0 bound 99 within 99", 1, 0, 1);
        // a dead row makes the cell a dead leaf, whatever the others are
        dueTree("row 3 bound 1;row 0 bound -1", 1, 1, 0);
        dueTree("row 3 bound 3;row 3 bound -1", 1, 1, 0);
        dueTree("row 3 bound 3;row 3 bound 2", 3, 1, 1);
        combWithLeastApartFrom0();
    }

    /** Sums from 6 to 9 and from -9 to -6: the rest is told from LEAST on, whatever its sign. */
    private static void combWithLeastApartFrom0() {
        for (int bound = -12; bound <= 12; bound++) {
            ThinBodies x = Checks.told("letters 1;box 0 2 3;comb 3 bound " + bound + " within 5");
            Checks.due("17 from 6 to 9, by 5 of " + bound, x.tree(2) == 1 && x.tree(0) == 1 ? 1 : 0, Math.floorMod(bound, 5) == 0 ? 1 : 0);
            x.box(0, -3, -2);
            Checks.due("17 from -9 to -6, by 5 of " + bound, x.tree(2) == 1 && x.tree(0) == 1 ? 1 : 0, Math.floorMod(bound, 5) == 0 ? 1 : 0);
        }
    }

    private static void dueLeaf(ThinBodies x, int k, int... sides) {
        for (int i = 0; 2 * i < sides.length; i++) {
            Checks.due("19 leaf " + k + " low " + i, x.side(k, i, 0), sides[2 * i]);
            Checks.due("19 leaf " + k + " high " + i, x.side(k, i, 1), sides[2 * i + 1]);
        }
    }

    private static void parted() {
        // letter 1 is as wide as letter 0, which is parted first; then letter 1, being wider; and so on
        ThinBodies x = Checks.told("tie 1 1");
        Checks.due("17 cells", x.tree(0), 9);
        dueLeaf(x, 0, 0, 0, 0, 0);
        dueLeaf(x, 1, 0, 0, 1, 1);
        dueLeaf(x, 2, 1, 1, 0, 1);
        dueLeaf(x, 3, 0, 1, 2, 3);
        dueLeaf(x, 4, 2, 3, 0, 3);
        // the last letter is the widest by one
        ThinBodies y = Checks.told("letters 4;box 0 0 0;box 1 0 1;box 2 0 1;box 3 0 2;row 1 1 1 1");
        dueLeaf(y, 0, 0, 0, 0, 0, 0, 0, 0, 0);
        int last = (y.tree(0) + 1) / 2 - 1;
        dueLeaf(y, last, 0, 0, 0, 1, 0, 1, 2, 2);
        Checks.due("17 one point is whole", y.tree(3), 1);
        // each width from 1 to 19, from each low on: low and high are halved towards low
        for (int low = -9; low <= 9; low++) {
            for (int high = low + 1; high <= 9; high++) {
                int middle = low;
                while (2 * (middle + 1) <= low + high) {
                    middle++;
                }
                ThinBodies z = new ThinBodies();
                z.letters(1);
                z.box(0, low, high);
                z.row(0, middle, 1);
                z.change(0, 3, 1);
                Checks.due("17 parted once", z.tree(0), 3);
                dueLeaf(z, 0, low, middle);
                dueLeaf(z, 1, middle + 1, high);
            }
        }
    }

    private static void deep() {
        Checks.due("17 none is parted", new ThinBodies().tree(1), 0);
        Checks.due("17 deepest at the low end", Checks.told("letters 1;box 0 -9 9;tie 1 bound -9").tree(1), 5);
        Checks.due("17 deepest at the high end", Checks.told("letters 1;box 0 -8 9;tie 1 bound 9").tree(1), 4);
        Checks.due("17 of 4 the last", Checks.told("letters 1;tie 1 bound 3").tree(1), 2);
        Checks.due("17 of 5 the first", Checks.told("letters 1;box 0 0 4;tie 1").tree(1), 3);
        Checks.due("17 of 5 the last", Checks.told("letters 1;box 0 0 4;tie 1 bound 4").tree(1), 2);
    }

    private static void dueUnits(String what, ThinBodies x, int n) {
        for (int v = 0; v < n; v++) {
            for (int i = 0; i < n; i++) {
                Checks.due(what, x.baseOf(v, i), v == i ? 1 : 0);
            }
        }
    }

    private static void vectors() {
        ThinBodies x = new ThinBodies();
        dueUnits("27 at first", x, 2);
        for (int n : new int[] {4, 3, 2, 1, 2, 3, 4, 1}) {
            x.letters(n);
            dueUnits("27 when n changes", x, n);
            for (int v = 0; v < n; v++) {
                for (int i = 0; i < n; i++) {
                    x.base(v, i, v - i - 1);
                }
            }
            x.letters(n);
            Checks.due("27 n doesn't change", x.baseOf(0, 0), -1);
            Checks.due("27 n doesn't change", x.baseOf(0, n - 1), -n);
        }
        x.letters(2);
        x.base(1, 0, 3);
        x.box(0, 1, 1);
        x.row(0, 0, 1);
        x.drop();
        Checks.due("27 nothing else makes them anew", x.baseOf(1, 0), 3);
        Checks.read(x, "box 1 0 0;letters 2;row 1 1");
        Checks.due("27 nor a text with the same n", x.baseOf(1, 0), 3);
        Checks.read(x, "letters 3;letters 2");
        dueUnits("27 but one in which n changes", x, 2);
    }

    private static ThinBodies with(int n, int... numbers) {
        ThinBodies x = new ThinBodies();
        x.letters(n);
        for (int i = 0; i < numbers.length; i++) {
            x.base(i / n, i % n, numbers[i]);
        }
        return x;
    }

    private static void dueForm(ThinBodies x, int n, int... numbers) {
        for (int i = 0; i < numbers.length; i++) {
            Checks.due("31 vector " + i / n + " letter " + i % n, x.form(i / n, i % n), numbers[i]);
        }
    }

    private static void forms() {
        dueForm(with(1, -4), 1, 4);
        dueForm(with(1, 4), 1, 4);
        // letter 1 of vector 0: 3 by 4 stays, 4 by 4 is 0, -1 by 4 is 3, -4 by 4 is 0
        dueForm(with(2, 1, 3, 0, 4), 2, 1, 3, 0, 4);
        dueForm(with(2, 1, 4, 0, 4), 2, 1, 0, 0, 4);
        dueForm(with(2, 1, -1, 0, 4), 2, 1, 3, 0, 4);
        dueForm(with(2, 1, -4, 0, -4), 2, 1, 0, 0, 4);
        dueForm(with(2, 0, -3, -2, 1), 2, 2, 2, 0, 3);
        dueForm(with(2, 4, 0, 3, 1), 2, 1, 3, 0, 4);
        // vector 0 is lowered by vector 1 first, and what comes by it to letter 2 is lowered then
        dueForm(with(3, 1, 4, 0, 0, 2, 1, 0, 0, 4), 3, 1, 0, 2, 0, 2, 1, 0, 0, 4);
        dueForm(with(3, 1, -1, 0, 0, 2, 1, 0, 0, 4), 3, 1, 1, 1, 0, 2, 1, 0, 0, 4);
        dueForm(with(4, 1, 0, 0, 4, 0, 1, 0, -1, 0, 0, 1, 3, 0, 0, 0, 4), 4, 1, 0, 0, 0, 0, 1, 0, 3, 0, 0, 1, 3, 0, 0, 0, 4);
        ThinBodies none = with(4, 1, 0, 0, 0, 0, 1, 0, 0, 0, 0, 1, 0, 1, 1, 1, 0);
        Checks.due("31 the last is the sum of the others", none.form(3, 3), Checks.NONE);
        Checks.due("30 determinant 0", none.det(), 0);
        none.base(3, 3, -1);
        Checks.due("31 it isn't any more", none.form(3, 3), 1);
        Checks.due("30 determinant -1", none.det(), -1);
    }

    private static void dueShort(ThinBodies x, int square, int... numbers) {
        Checks.due("32 sum of squares", x.shortest(-1), square);
        for (int i = 0; i < numbers.length; i++) {
            Checks.due("32 letter " + i, x.shortest(i), numbers[i]);
        }
    }

    private static void shorts() {
        dueShort(with(1, 1), 1, 1);
        dueShort(with(2, 0, 1, -1, 0), 1, 1, 0);
        dueShort(with(2, 1, 1, -1, 1), 2, 1, 1);
        dueShort(with(2, 1, -1, 2, 3), 2, 1, -1);
        // a vector of the base isn't it: (4, 3) less (3, 4)
        dueShort(with(2, 4, 3, 3, 4), 2, 1, -1);
        dueShort(with(2, 4, 1, 1, 4), 17, 4, 1);
        dueShort(with(2, 4, 0, 0, 3), 9, 0, 3);
        dueShort(with(3, 4, 0, 0, 0, 4, 0, 0, 0, -2), 4, 0, 0, 2);
        dueShort(with(3, 4, 0, 0, 0, 3, 0, 0, 0, 3), 9, 0, 3, 0);
        dueShort(with(3, 2, 1, 0, 2, -1, 0, 0, 0, 4), 4, 0, 2, 0);
        dueShort(with(4, 2, 2, 2, 2, 2, -2, 2, -2, 2, 2, -2, -2, 2, -2, -2, 2), 16, 2, 2, 2, 2);
        // (2, 2, 2, 2) is as short as (4, 0, 0, 0), which has the greater letter 0
        dueShort(with(4, 4, 0, 0, 0, 0, 4, 0, 0, 0, 0, 4, 0, 2, 2, 2, 2), 16, 4, 0, 0, 0);
        dueShort(with(4, -4, 0, 0, 0, 0, 0, 0, -4, 0, 0, 4, 0, 0, -4, 0, 0), 16, 4, 0, 0, 0);
    }
}
