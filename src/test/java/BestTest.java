/** Promises 22 to 25: needs, without, kind, boundFor. */
public final class BestTest {
    public static void main(String[] args) {
        needs();
        without();
        kind();
        boundFor();
        Checks.end();
    }

    private static void needs() {
        Checks.due("22 no rows", new ThinBodies().needs(), 0);
        Checks.due("22 one is in", Checks.told("tie 1 1 bound 3").needs(), 0);
        // x is 1, x is 2, x is 2: the first alone is fewer than the other two
        Checks.due("22 fewest", Checks.told("tie 1 0 bound 1;tie 1 0 bound 2;tie 1 0 bound 2").needs(), 1);
        // fewer rows count more than a lesser number
        Checks.due("22 fewest", Checks.told("tie 1 0 bound 2;tie 1 0 bound 2;tie 1 0 bound 1").needs(), 4);
        Checks.due("22 of several the least", Checks.told("tie 1 0 bound 2;tie 1 0 bound 1").needs(), 1);
        Checks.due("22 all must go", Checks.told("row 0 0 bound -1;least 0 0 bound 1;tie 0 0 bound 2;tie 0 0 bound 3;"
            + "tie 0 0 bound 4").needs(), 31);
    }

    private static void without() {
        Checks.due("23 none", new ThinBodies().without(), Checks.NONE);
        Checks.due("23 the second frees more", Checks.told("row 1 0 bound 2;row 0 1 bound 0").without(), 1);
        Checks.due("23 of several the least", Checks.told("row 1 0 bound 1;row 0 1 bound 1").without(), 0);
        Checks.due("23 none would be in", Checks.told("row 0 0 bound -1;row 0 0 bound -1").without(), 0);
    }

    private static void kind() {
        ThinBodies x = Checks.told("letters 1;row 1 bound 0 within 1;row 1 bound 2");
        // rows: x at most 2, and 0 as row: 0; tie 0; band 0, 1; comb 0, 1, 2; off 2; least 0, 1, 2
        Checks.due("24 comb is the least with most", x.kind(0), 3);
        x.change(0, 2, 2);
        // band 0, 1, 2; comb 0, 2; least 0, 1, 2
        Checks.due("24 band", x.kind(0), 2);
        x.change(0, 1, 3);
        Checks.due("24 row", x.kind(0), 0);
        x.change(0, 1, -5);
        // row none, tie none, band none, comb 1, off 0, 1, 2
        Checks.due("24 off", x.kind(0), 4);
        x.change(0, 1, -2);
        // band 0; comb 0, 2; off 1, 2; least 0, 1, 2
        Checks.due("24 least", x.kind(0), 5);
        Checks.due("24 the row is as it was", x.of(0, 0), 0);
        Checks.due("24 row 2", x.kind(2), Checks.BEYOND);
        Checks.due("24 row -1", x.kind(-1), Checks.BEYOND);
        Checks.read(x, "tie 0 bound 5");
        Checks.due("24 none is in by any", x.kind(0), 0);
    }

    private static void boundFor() {
        ThinBodies x = Checks.told("letters 1;box 0 -3 4;row 3 within 4;least 1 bound -2");
        // sums of row 0 where the other holds: -6, -3, .. 12
        int[] least = {-6, -6, -10, -999, -999, -999};
        for (int kind = 0; kind < 6; kind++) {
            x.change(0, 0, kind);
            Checks.due("25 kind " + kind, x.boundFor(0), least[kind]);
        }
        x.change(0, 0, 3);
        x.change(0, 2, 99);
        // of the sums -6 leaves the rest 93, -3 96, 0 0, ..; -999 leaves 90, so 93 comes first
        Checks.due("25 comb by 99", x.boundFor(0), -996);
        Checks.due("25 the row is as it was", x.of(0, 1), 0);
        Checks.due("25 row 2", x.boundFor(2), Checks.BEYOND);
        Checks.due("25 row -1", x.boundFor(-1), Checks.BEYOND);
        Checks.read(x, "tie 0 bound 1");
        Checks.due("25 none", x.boundFor(0), Checks.NONE);
        ThinBodies far = Checks.told("letters 4;box 0 9 9;box 1 9 9;box 2 9 9;box 3 9 9;row 9 9 9 9");
        Checks.due("25 the greatest sum", far.boundFor(0), 324);
        Checks.read(far, "band -9 -9 -9 -9 within 99");
        far.change(0, 1, 999);
        Checks.due("25 the least sum", far.boundFor(1), -423);
    }
}
