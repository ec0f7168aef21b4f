/** Promises 10 to 16: many, point, holds, best, thin, mean, round. */
public final class PointsTest {
    public static void main(String[] args) {
        kindsAtTheirEdges();
        point();
        holds();
        best();
        thin();
        mean();
        round();
        Checks.end();
    }

    /** One letter from -9 to 9: how many hold is plain for each kind. */
    private static void kindsAtTheirEdges() {
        String[] rows = {"row 1 bound 2", "tie 1 bound 2", "band 1 bound 2 within 3", "comb 1 bound 2 within 5",
            "off 1 bound 2 within 3", "least 1 bound 2", "row 1 bound -10", "least 1 bound 10", "comb 1 bound 999 within 99",
            "comb 2 bound 1 within 2", "band 9 bound 0 within 1", "off 0 bound 1 within 1", "off 0 bound 2 within 1"};
        int[] dueMany = {12, 1, 7, 4, 12, 8, 0, 0, 1, 0, 1, 0, 19};
        for (int i = 0; i < rows.length; i++) {
            ThinBodies x = Checks.told("letters 1;box 0 -9 9;" + rows[i]);
            Checks.due("10 " + rows[i], x.many(), dueMany[i]);
        }
        ThinBodies two = Checks.told("box 0 -1 1;box 1 -1 1;row 1 1;least 1 1;off 1 0 bound 5 within 5");
        Checks.due("10 x and y below 0 together, x below 0", two.many(), 1);
        Checks.due("10 point", two.point(0, 0), -1);
        Checks.due("10 point", two.point(0, 1), 1);
    }

    private static void point() {
        ThinBodies x = Checks.told("letters 3;box 0 -1 0;box 1 5 6;box 2 -9 -8");
        for (int k = 0; k < 8; k++) {
            Checks.due("11 letter 0", x.point(k, 0), -1 + k / 4);
            Checks.due("11 letter 1", x.point(k, 1), 5 + k / 2 % 2);
            Checks.due("11 letter 2", x.point(k, 2), -9 + k % 2);
        }
        Checks.due("11 k 8", x.point(8, 0), Checks.NONE);
        Checks.due("11 k -1", x.point(-1, 0), Checks.NONE);
        Checks.due("11 letter 3", x.point(0, 3), Checks.BEYOND);
        Checks.due("11 letter -1", x.point(0, -1), Checks.BEYOND);
        Checks.due("11 beyond is asked ahead of none", x.point(8, 3), Checks.BEYOND);
    }

    private static void holds() {
        ThinBodies x = Checks.told("row 1 1 bound 3;tie 1 -1;least 9 9 bound 999");
        Checks.due("12 sheet -1", x.holds(-1), Checks.BEYOND);
        Checks.due("12 sheet 4", x.holds(4), Checks.BEYOND);
        Checks.due("12 missing", x.holds(3), Checks.MISSING);
        Checks.lay(x, 0, 5000);
        Checks.due("12 size ahead of state", x.holds(0), Checks.SIZE);
        Checks.lay(x, 0, 999, 999);
        Checks.due("12 999", x.holds(0), 6);
        Checks.lay(x, 0, -999, -999, 1000);
        Checks.due("12 -999, and a third that doesn't matter", x.holds(0), 3);
        Checks.lay(x, 0, 0, 1000);
        Checks.due("12 1000", x.holds(0), Checks.STATE);
        Checks.lay(x, 0, -1000, 0);
        Checks.due("12 -1000", x.holds(0), Checks.STATE);
        Checks.lay(x, 0, 1L << 32, 0);
        Checks.due("12 much more than an int", x.holds(0), Checks.STATE);
        Checks.lay(x, 0, 50, -50);
        Checks.due("12 outside the box", x.holds(0), 1);
    }

    private static void best() {
        ThinBodies x = Checks.told("row 1 1 bound 3");
        Checks.due("13 2x + y", x.best(4 * 5 + 3, 0), 6);
        Checks.due("13 its point", x.best(4 * 5 + 3, 1), 9);
        Checks.due("13 its span", x.best(4 * 5 + 3, 2), 6);
        Checks.due("13 x + y is 3 first at (0, 3)", x.best(3 * 5 + 3, 1), 3);
        Checks.due("13 -2x - 2y", x.best(0, 0), 0);
        Checks.due("13 -2x - 2y", x.best(0, 2), 6);
        Checks.due("13 0 alone", x.best(12, 0), 0);
        Checks.due("13 0 alone", x.best(12, 1), 0);
        Checks.due("13 direction 24", x.best(24, 0), 6);
        Checks.due("13 direction 25", x.best(25, 0), Checks.BEYOND);
        Checks.due("13 direction -1", x.best(-1, 0), Checks.BEYOND);
        Checks.due("13 what 3", x.best(0, 3), Checks.BEYOND);
        Checks.due("13 what -1", x.best(0, -1), Checks.BEYOND);
        Checks.read(x, "row 0 0 bound -1");
        Checks.due("13 none", x.best(0, 0), Checks.NONE);
        Checks.due("13 beyond is asked ahead of none", x.best(25, 0), Checks.BEYOND);
    }

    private static void thin() {
        ThinBodies x = Checks.told("tie 1 -1");
        Checks.due("14 -2x + 2y", x.thin(0), 4);
        Checks.due("14 span", x.thin(1), 0);
        ThinBodies one = Checks.told("letters 1;box 0 0 9");
        Checks.due("14 -x", one.thin(0), 1);
        Checks.due("14 span", one.thin(1), 9);
        ThinBodies flat = Checks.told("letters 4;box 2 7 7");
        Checks.due("14 -2 by letter 2", flat.thin(0), ((2 * 5 + 2) * 5) * 5 + 2);
        Checks.due("14 span", flat.thin(1), 0);
        flat.box(2, 6, 7);
        Checks.due("14 the body changed: -1 by letter 2", flat.thin(0), ((2 * 5 + 2) * 5 + 1) * 5 + 2);
        Checks.due("14 span", flat.thin(1), 1);
        Checks.due("14 what 2", flat.thin(2), Checks.BEYOND);
        Checks.due("14 what -1", flat.thin(-1), Checks.BEYOND);
        Checks.read(flat, "tie 0 0 0 0 bound 1");
        Checks.due("14 none", flat.thin(1), Checks.NONE);
        Checks.due("14 beyond is asked ahead of none", flat.thin(2), Checks.BEYOND);
    }

    private static void mean() {
        ThinBodies x = Checks.told("box 0 -9 -2;box 1 -3 3");
        Checks.due("15 above the line", x.mean(0, 0), -11);
        Checks.due("15 below the line", x.mean(0, 1), 2);
        Checks.due("15 0", x.mean(1, 0), 0);
        Checks.due("15 by 1", x.mean(1, 1), 1);
        Checks.due("15 letter 2", x.mean(2, 0), Checks.BEYOND);
        Checks.due("15 letter -1", x.mean(-1, 0), Checks.BEYOND);
        Checks.due("15 part 2", x.mean(0, 2), Checks.BEYOND);
        Checks.due("15 part -1", x.mean(0, -1), Checks.BEYOND);
        Checks.read(x, "tie 0 0 bound 1");
        Checks.due("15 none", x.mean(0, 0), Checks.NONE);
        Checks.due("15 beyond is asked ahead of none", x.mean(2, 0), Checks.BEYOND);
    }

    private static void round() {
        ThinBodies x = Checks.told("box 0 -9 9;box 1 -9 9");
        Checks.due("16 a corner", x.round(0), 1);
        Checks.due("16 the middle", x.round(180), 100);
        Checks.due("16 beside it", x.round(181), 81);
        Checks.due("16 none", x.round(361), Checks.NONE);
        Checks.due("16 none", x.round(-1), Checks.NONE);
        ThinBodies cut = Checks.told("box 0 -9 9;box 1 -9 9;row 1 1 bound 6");
        int k = 0;
        while (cut.point(k, 0) != 0 || cut.point(k, 1) != 0) {
            k++;
        }
        Checks.due("16 to (3, 4)", cut.round(k), 25);
        Checks.due("16 to the first of the box", Checks.told("letters 1;box 0 0 9;least 1 bound 1").round(1), 4);
        Checks.due("16 to the last of the box", Checks.told("letters 1;box 0 0 9;row 1 bound 8").round(7), 4);
        Checks.due("16 all round", Checks.told("letters 3;tie 1 1 1").round(0), 1);
    }
}
