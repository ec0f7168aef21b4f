/** Promises 10 to 16: many, point, holds, best, thin, mean, round. */
public final class PointsTest {
    public static void main(String[] args) {
        kindsAtTheirEdges();
        point();
        holds();
        best();
        thin();
        mean();
        round();
        manyEdges();
        holdsEdges();
        bestEdges();
        thinEdges();
        meanEdges();
        roundEdges();
        Checks.end();
    }

    /** One letter from -9 to 9: how many hold is plain for each kind. */
    private static void kindsAtTheirEdges() {
        String[] rows = {"row 1 bound 2", "tie 1 bound 2", "band 1 bound 2 within 3", "comb 1 bound 2 within 5",
            "off 1 bound 2 within 3", "least 1 bound 2", "row 1 bound -10", "least 1 bound 10", "comb 1 bound 999 within 99",
            "comb 2 bound 1 within 2", "band 9 bound 0 within 1", "off 0 bound 1 within 1", "off 0 bound 2 within 1"};
        int[] dueMany = {12, 1, 7, 4, 12, 8, 0, 0, 1, 0, 1, 0, 19};
        for (int i = 0; i < rows.length; i++) {
            ThinBodies x = Checks.told("letters 1;box 0 -9 9;" + rows[i]);
            Checks.due("10 " + rows[i], x.many(), dueMany[i]);
        }
        ThinBodies two = Checks.told("box 0 -1 1;box 1 -1 1;row 1 1;least 1 1;off 1 0 bound 5 within 5");
        Checks.due("10 x and y below 0 together, x below 0", two.many(), 1);
        Checks.due("10 point", two.point(0, 0), -1);
        Checks.due("10 point", two.point(0, 1), 1);
    }

    private static void point() {
        ThinBodies x = Checks.told("letters 3;box 0 -1 0;box 1 5 6;box 2 -9 -8");
        for (int k = 0; k < 8; k++) {
            Checks.due("11 letter 0", x.point(k, 0), -1 + k / 4);
            Checks.due("11 letter 1", x.point(k, 1), 5 + k / 2 % 2);
            Checks.due("11 letter 2", x.point(k, 2), -9 + k % 2);
        }
        Checks.due("11 k 8", x.point(8, 0), Checks.NONE);
        Checks.due("11 k -1", x.point(-1, 0), Checks.NONE);
        Checks.due("11 letter 3", x.point(0, 3), Checks.BEYOND);
        Checks.due("11 letter -1", x.point(0, -1), Checks.BEYOND);
        Checks.due("11 beyond is asked ahead of none", x.point(8, 3), Checks.BEYOND);
    }

    private static void holds() {
        ThinBodies x = Checks.told("row 1 1 bound 3;tie 1 -1;least 9 9 bound 999");
        Checks.due("12 sheet -1", x.holds(-1), Checks.BEYOND);
        Checks.due("12 sheet 4", x.holds(4), Checks.BEYOND);
        Checks.due("12 missing", x.holds(3), Checks.MISSING);
        Checks.lay(x, 0, 5000);
        Checks.due("12 size ahead of state", x.holds(0), Checks.SIZE);
        Checks.lay(x, 0, 999, 999);
        Checks.due("12 999", x.holds(0), 6);
        Checks.lay(x, 0, -999, -999, 1000);
        Checks.due("12 -999, and a third that doesn't matter", x.holds(0), 3);
        Checks.lay(x, 0, 0, 1000);
        Checks.due("12 1000", x.holds(0), Checks.STATE);
        Checks.lay(x, 0, -1000, 0);
        Checks.due("12 -1000", x.holds(0), Checks.STATE);
        Checks.lay(x, 0, 1L << 32, 0);
        Checks.due("12 much more than an int", x.holds(0), Checks.STATE);
        Checks.lay(x, 0, 50, -50);
        Checks.due("12 outside the box", x.holds(0), 1);
    }

    private static void best() {
        ThinBodies x = Checks.told("row 1 1 bound 3");
        Checks.due("13 2x + y", x.best(4 * 5 + 3, 0), 6);
        Checks.due("13 its point", x.best(4 * 5 + 3, 1), 9);
        Checks.due("13 its span", x.best(4 * 5 + 3, 2), 6);
        Checks.due("13 x + y is 3 first at (0, 3)", x.best(3 * 5 + 3, 1), 3);
        Checks.due("13 -2x - 2y", x.best(0, 0), 0);
        Checks.due("13 -2x - 2y", x.best(0, 2), 6);
        Checks.due("13 0 alone", x.best(12, 0), 0);
        Checks.due("13 0 alone", x.best(12, 1), 0);
        Checks.due("13 direction 24", x.best(24, 0), 6);
        Checks.due("13 direction 25", x.best(25, 0), Checks.BEYOND);
        Checks.due("13 direction -1", x.best(-1, 0), Checks.BEYOND);
        Checks.due("13 what 3", x.best(0, 3), Checks.BEYOND);
        Checks.due("13 what -1", x.best(0, -1), Checks.BEYOND);
        Checks.read(x, "row 0 0 bound -1");
        Checks.due("13 none", x.best(0, 0), Checks.NONE);
        Checks.due("13 beyond is asked ahead of none", x.best(25, 0), Checks.BEYOND);
    }

    private static void thin() {
        ThinBodies x = Checks.told("tie 1 -1");
        Checks.due("14 -2x + 2y", x.thin(0), 4);
        Checks.due("14 span", x.thin(1), 0);
        ThinBodies one = Checks.told("letters 1;box 0 0 9");
        Checks.due("14 -x", one.thin(0), 1);
        Checks.due("14 span", one.thin(1), 9);
        ThinBodies flat = Checks.told("letters 4;box 2 7 7");
        Checks.due("14 -2 by letter 2", flat.thin(0), ((2 * 5 + 2) * 5) * 5 + 2);
        Checks.due("14 span", flat.thin(1), 0);
        flat.box(2, 6, 7);
        Checks.due("14 the body changed: -1 by letter 2", flat.thin(0), ((2 * 5 + 2) * 5 + 1) * 5 + 2);
        Checks.due("14 span", flat.thin(1), 1);
        Checks.due("14 what 2", flat.thin(2), Checks.BEYOND);
        Checks.due("14 what -1", flat.thin(-1), Checks.BEYOND);
        Checks.read(flat, "tie 0 0 0 0 bound 1");
        Checks.due("14 none", flat.thin(1), Checks.NONE);
        Checks.due("14 beyond is asked ahead of none", flat.thin(2), Checks.BEYOND);
    }

    private static void mean() {
        ThinBodies x = Checks.told("box 0 -9 -2;box 1 -3 3");
        Checks.due("15 above the line", x.mean(0, 0), -11);
        Checks.due("15 below the line", x.mean(0, 1), 2);
        Checks.due("15 0", x.mean(1, 0), 0);
        Checks.due("15 by 1", x.mean(1, 1), 1);
        Checks.due("15 letter 2", x.mean(2, 0), Checks.BEYOND);
        Checks.due("15 letter -1", x.mean(-1, 0), Checks.BEYOND);
        Checks.due("15 part 2", x.mean(0, 2), Checks.BEYOND);
        Checks.due("15 part -1", x.mean(0, -1), Checks.BEYOND);
        Checks.read(x, "tie 0 0 bound 1");
        Checks.due("15 none", x.mean(0, 0), Checks.NONE);
        Checks.due("15 beyond is asked ahead of none", x.mean(2, 0), Checks.BEYOND);
    }

    private static void round() {
        ThinBodies x = Checks.told("box 0 -9 9;box 1 -9 9");
        Checks.due("16 a corner", x.round(0), 1);
        Checks.due("16 the middle", x.round(180), 100);
        Checks.due("16 beside it", x.round(181), 81);
        Checks.due("16 none", x.round(361), Checks.NONE);
        Checks.due("16 none", x.round(-1), Checks.NONE);
        ThinBodies cut = Checks.told("box 0 -9 9;box 1 -9 9;row 1 1 bound 6");
        int k = 0;
        while (cut.point(k, 0) != 0 || cut.point(k, 1) != 0) {
            k++;
        }
        Checks.due("16 to (3, 4)", cut.round(k), 25);
        Checks.due("16 to the first of the box", Checks.told("letters 1;box 0 0 9;least 1 bound 1").round(1), 4);
        Checks.due("16 to the last of the box", Checks.told("letters 1;box 0 0 9;row 1 bound 8").round(7), 4);
        Checks.due("16 all round", Checks.told("letters 3;tie 1 1 1").round(0), 1);
    }

    private static void manyEdges() {
        ThinBodies x = Checks.told("letters 4;box 0 0 7;box 1 0 7;box 2 0 7;box 3 0 7");
        Checks.due("10 all", x.many(), 4096);
        Checks.due("11 the last", x.point(4095, 3), 7);
        Checks.due("11 no more", x.point(4096, 3), Checks.NONE);
        Checks.due("16 the last", x.round(4095), 1);
        Checks.due("16 no more", x.round(4096), Checks.NONE);
        x.row(1, 28, 1);
        for (int what = 3; what < 7; what++) {
            x.change(0, what, 1);
        }
        Checks.due("10 one", x.many(), 1);
        Checks.due("11 the only one", x.point(0, 0), 7);
        Checks.due("11 no more", x.point(1, 0), Checks.NONE);
        x.change(0, 1, 29);
        Checks.due("10 none", x.many(), 0);
        Checks.due("11 none", x.point(0, 0), Checks.NONE);
        Checks.due("16 none", x.round(0), Checks.NONE);
    }

    private static void holdsEdges() {
        ThinBodies x = new ThinBodies();
        Checks.lay(x, 3, 999, -999);
        Checks.due("12 sheet 3, no rows", x.holds(3), 0);
        for (int r = 0; r < 8; r++) {
            x.row(0, 0, 1);
        }
        Checks.due("12 all eight", x.holds(3), 255);
        x.change(7, 1, -1);
        Checks.due("12 all but the last", x.holds(3), 127);
        x.change(0, 0, 4);
        Checks.due("12 nor the first", x.holds(3), 126);
        for (int n = 1; n <= 4; n++) {
            x.letters(n);
            for (int size = 0; size < n; size++) {
                x.sheet(0, 16, size);
                Checks.due("12 " + size + " for " + n, x.holds(0), Checks.SIZE);
            }
            x.sheet(0, 16, 5);
            x.write(0, n, 1000);
            Checks.due("12 what is behind the point doesn't matter", x.holds(0), 126);
            x.write(0, n - 1, 1000);
            Checks.due("12 1000 in the last", x.holds(0), Checks.STATE);
            x.write(0, n - 1, 999);
            Checks.due("12 999 in the last", x.holds(0), 126);
            x.write(0, 0, -1000);
            Checks.due("12 -1000 in the first", x.holds(0), Checks.STATE);
            x.write(0, 0, -999);
            Checks.due("12 -999 in the first", x.holds(0), 126);
        }
        Checks.lay(x, 0, Long.MIN_VALUE, 0, 0, 0);
        Checks.due("12 the least long", x.holds(0), Checks.STATE);
        Checks.lay(x, 0, 0, 0, 0, Long.MAX_VALUE);
        Checks.due("12 the greatest long", x.holds(0), Checks.STATE);
        x.sheet(0, 8, 4);
        x.write(0, 0, 1000);
        Checks.due("12 1000 in 8 bits is -24", x.holds(0), 126);
    }

    private static void bestEdges() {
        ThinBodies x = Checks.told("letters 1;box 0 -9 9");
        int[] most = {18, 9, 0, 9, 18};
        int[] first = {0, 0, 0, 18, 18};
        int[] span = {36, 18, 0, 18, 36};
        for (int direction = 0; direction < 5; direction++) {
            Checks.due("13 most", x.best(direction, 0), most[direction]);
            Checks.due("13 first", x.best(direction, 1), first[direction]);
            Checks.due("13 span", x.best(direction, 2), span[direction]);
        }
        ThinBodies y = Checks.told("box 0 -9 -5;box 1 -8 -6;comb 1 0 bound -9 within 2");
        // in: -9, -7, -5 with -8, -7, -6
        Checks.due("13 x: all below 0", y.best(3 * 5 + 2, 0), -5);
        Checks.due("13 x: the first of three", y.best(3 * 5 + 2, 1), 6);
        Checks.due("13 x: span", y.best(3 * 5 + 2, 2), 4);
        Checks.due("13 -y: the first of three", y.best(2 * 5 + 1, 1), 0);
        Checks.due("13 -y", y.best(2 * 5 + 1, 0), 8);
        Checks.due("13 -y: span", y.best(2 * 5 + 1, 2), 2);
        Checks.due("13 x - y: -5 and 8", y.best(3 * 5 + 1, 0), 3);
        Checks.due("13 x - y: the first", y.best(3 * 5 + 1, 1), 6);
        Checks.due("13 x - y: span", y.best(3 * 5 + 1, 2), 6);
    }

    private static void thinEdges() {
        ThinBodies x = Checks.told("letters 1;box 0 -9 9");
        Checks.due("14 -x and x are as thin, -x has the lesser number", x.thin(0), 1);
        Checks.due("14 span", x.thin(1), 18);
        x.box(0, 4, 5);
        Checks.due("14 of two points", x.thin(0), 1);
        Checks.due("14 span", x.thin(1), 1);
        x.box(0, 4, 4);
        Checks.due("14 of one point all are as thin", x.thin(0), 0);
        Checks.due("14 span", x.thin(1), 0);
        // points (0, 0), (1, 2), (2, 4): by -2x + y they are all one, and by 2x - y
        ThinBodies y = Checks.told("box 1 0 4;tie 2 -1;row 1 0 bound 2");
        Checks.due("10 three", y.many(), 3);
        Checks.due("14 -2x + y", y.thin(0), 3);
        Checks.due("14 span", y.thin(1), 0);
        // in 4 by 4 all of -2y, -y, y, 2y, .. are wider than -x
        ThinBodies z = Checks.told("box 0 0 1");
        Checks.due("14 -x", z.thin(0), 1 * 5 + 2);
        Checks.due("14 span", z.thin(1), 1);
        ThinBodies w = new ThinBodies();
        Checks.due("14 -x, as thin as -y", w.thin(0), 1 * 5 + 2);
        Checks.due("14 span", w.thin(1), 3);
        Checks.due("14 asked once more", w.thin(0), 1 * 5 + 2);
        w.row(1, 1, 1);
        w.change(0, 4, 1);
        Checks.due("14 the body changed: -2y", w.thin(0), 2 * 5);
        Checks.due("14 span", w.thin(1), 0);
    }

    private static void dueMean(String text, int letter, int above, int below) {
        ThinBodies x = Checks.told(text);
        Checks.due("15 " + text + ": above the line", x.mean(letter, 0), above);
        Checks.due("15 " + text + ": below the line", x.mean(letter, 1), below);
    }

    private static void meanEdges() {
        dueMean("letters 1;box 0 -9 -9", 0, -9, 1);
        dueMean("letters 1;box 0 9 9", 0, 9, 1);
        dueMean("letters 1;box 0 0 0", 0, 0, 1);
        dueMean("letters 1;box 0 -9 9", 0, 0, 1);
        dueMean("letters 1;box 0 -9 8", 0, -1, 2);
        dueMean("letters 1;box 0 -8 9", 0, 1, 2);
        dueMean("letters 1;box 0 -1 1;row 1", 0, -1, 2);
        // in: 1, 2, 3; then (1, 0) alone; then 0, 3, 5
        dueMean("letters 1;box 0 1 4;off 1 bound 5 within 1", 0, 2, 1);
        dueMean("box 0 1 1;box 1 0 3;off 1 1 bound 3 within 1", 1, 0, 1);
        dueMean("letters 1;box 0 0 5;off 2 bound 3 within 1;off 2 bound 8 within 1", 0, 8, 3);
        dueMean("letters 2;box 0 0 2;row 1 1 bound 2", 0, 2, 3);
        dueMean("letters 2;box 0 0 2;row 1 1 bound 2", 1, 2, 3);
        dueMean("letters 2;box 0 -2 0;least 1 -1 bound -2;box 1 0 2", 0, -2, 3);
        dueMean("letters 4;box 0 0 7;box 1 0 7;box 2 0 7;box 3 2 9", 3, 11, 2);
    }

    /** The nearest that isn't in may be across each side of each letter, or inside the box. */
    private static void roundEdges() {
        Checks.due("16 one point", Checks.told("letters 1;box 0 5 5").round(0), 1);
        ThinBodies x = Checks.told("letters 1;box 0 -9 9");
        for (int k = 0; k < 19; k++) {
            int step = Math.min(k, 18 - k) + 1;
            Checks.due("16 from " + (k - 9), x.round(k), step * step);
        }
        // 9 wide but in one letter, and there the nearest is across low, or across high
        for (int letter = 0; letter < 3; letter++) {
            for (int low = 0; low < 2; low++) {
                ThinBodies y = new ThinBodies();
                y.letters(3);
                for (int i = 0; i < 3; i++) {
                    y.box(i, -7, 7);
                }
                y.box(letter, low == 1 ? -2 : -7, low == 1 ? 7 : 2);
                int place = 0;
                for (int i = 0; i < 3; i++) {
                    place = place * (i == letter ? 10 : 15) + (i == letter && low == 1 ? 2 : 7);
                }
                Checks.due("16 letter 0 of it", y.point(place, 0), 0);
                Checks.due("16 letter 2 of it", y.point(place, 2), 0);
                Checks.due("16 across a side of letter " + letter, y.round(place), 9);
            }
        }
        // the middle is 5 from each side, and three points of the box aren't in
        ThinBodies z = Checks.told("box 0 -4 4;box 1 -4 4;off 9 1 bound 19 within 1");
        int middle = 0;
        while (z.point(middle, 0) != 0 || z.point(middle, 1) != 0) {
            middle++;
        }
        // 9x + y is 18, 19 or 20: (2, 0), (2, 1), (2, 2)
        Checks.due("16 to (2, 0)", z.round(middle), 4);
        z.change(0, 1, 21);
        // 20 to 22: (2, 2), (2, 3), (2, 4)
        Checks.due("16 to (2, 2)", z.round(middle), 8);
        z.change(0, 1, -21);
        Checks.due("16 to (-2, -2), three ahead of it aren't in", z.round(middle - 3), 8);
        roundAmongEightRows();
    }

    /** Four letters and eight rows, all broken in the nearest: how many rows they are doesn't matter. */
    private static void roundAmongEightRows() {
        ThinBodies x = Checks.told("letters 4;box 0 0 4;box 1 0 4;box 2 0 4;box 3 0 4");
        for (int r = 0; r < 8; r++) {
            x.row(0, 2, 1);
            x.change(r, 3, 1);
        }
        int middle = 2 * 125 + 62;
        Checks.due("16 letter 0 of it", x.point(middle, 0), 2);
        Checks.due("16 letter 3 of it", x.point(middle, 3), 2);
        Checks.due("16 to (3, 2, 2, 2)", x.round(middle), 1);
    }
}
