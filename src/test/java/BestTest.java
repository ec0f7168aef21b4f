/** Promises 22 to 25: needs, without, kind, boundFor. */
public final class BestTest {
    public static void main(String[] args) {
        needs();
        without();
        kind();
        boundFor();
        needsEdges();
        withoutEdges();
        kindEdges();
        boundForEdges();
        Checks.end();
    }

    private static void needs() {
        Checks.due("22 no rows", new ThinBodies().needs(), 0);
        Checks.due("22 one is in", Checks.told("tie 1 1 bound 3").needs(), 0);
        // x is 1, x is 2, x is 2: the first alone is fewer than the other two
        Checks.due("22 fewest", Checks.told("tie 1 0 bound 1;tie 1 0 bound 2;tie 1 0 bound 2").needs(), 1);
        // fewer rows count more than a lesser number
        Checks.due("22 fewest", Checks.told("tie 1 0 bound 2;tie 1 0 bound 2;tie 1 0 bound 1").needs(), 4);
        Checks.due("22 of several the least", Checks.told("tie 1 0 bound 2;tie 1 0 bound 1").needs(), 1);
        Checks.due("22 all must go", Checks.told("row 0 0 bound -1;least 0 0 bound 1;tie 0 0 bound 2;tie 0 0 bound 3;"
            + "tie 0 0 bound 4").needs(), 31);
    }

    private static void without() {
        Checks.due("23 none", new ThinBodies().without(), Checks.NONE);
        Checks.due("23 the second frees more", Checks.told("row 1 0 bound 2;row 0 1 bound 0").without(), 1);
        Checks.due("23 of several the least", Checks.told("row 1 0 bound 1;row 0 1 bound 1").without(), 0);
        Checks.due("23 none would be in", Checks.told("row 0 0 bound -1;row 0 0 bound -1").without(), 0);
    }

    private static void kind() {
        ThinBodies x = Checks.told("letters 1;row 1 bound 0 within 1;row 1 bound 2");
        // rows: x at most 2, and 0 as row: 0; tie 0; band 0, 1; comb 0, 1, 2; off 2; least 0, 1, 2
        Checks.due("24 comb is the least with most", x.kind(0), 3);
        x.change(0, 2, 2);
        // band 0, 1, 2; comb 0, 2; least 0, 1, 2
        Checks.due("24 band", x.kind(0), 2);
        x.change(0, 1, 3);
        Checks.due("24 row", x.kind(0), 0);
        x.change(0, 1, -5);
        // row none, tie none, band none, comb 1, off 0, 1, 2
        Checks.due("24 off", x.kind(0), 4);
        x.change(0, 1, -2);
        // band 0; comb 0, 2; off 1, 2; least 0, 1, 2
        Checks.due("24 least", x.kind(0), 5);
        Checks.due("24 the row is as it was", x.of(0, 0), 0);
        Checks.due("24 row 2", x.kind(2), Checks.BEYOND);
        Checks.due("24 row -1", x.kind(-1), Checks.BEYOND);
        Checks.read(x, "tie 0 bound 5");
        Checks.due("24 none is in by any", x.kind(0), 0);
    }

    private static void boundFor() {
        ThinBodies x = Checks.told("letters 1;box 0 -3 4;row 3 within 4;least 1 bound -2");
        // sums of row 0 where the other holds: -6, -3, .. 12
        int[] least = {-6, -6, -10, -999, -999, -999};
        for (int kind = 0; kind < 6; kind++) {
            x.change(0, 0, kind);
            Checks.due("25 kind " + kind, x.boundFor(0), least[kind]);
        }
        x.change(0, 0, 3);
        x.change(0, 2, 99);
        // of the sums -6 leaves the rest 93, -3 96, 0 0, ..; -999 leaves 90, so 93 comes first
        Checks.due("25 comb by 99", x.boundFor(0), -996);
        Checks.due("25 the row is as it was", x.of(0, 1), 0);
        Checks.due("25 row 2", x.boundFor(2), Checks.BEYOND);
        Checks.due("25 row -1", x.boundFor(-1), Checks.BEYOND);
        Checks.read(x, "tie 0 bound 1");
        Checks.due("25 none", x.boundFor(0), Checks.NONE);
        ThinBodies far = Checks.told("letters 4;box 0 9 9;box 1 9 9;box 2 9 9;box 3 9 9;row 9 9 9 9");
        Checks.due("25 the greatest sum", far.boundFor(0), 324);
        Checks.read(far, "band -9 -9 -9 -9 within 99");
        far.change(0, 1, 999);
        Checks.due("25 the least sum", far.boundFor(1), -423);
    }

    private static void needsEdges() {
        ThinBodies x = new ThinBodies();
        for (int r = 0; r < 8; r++) {
            x.row(1, 1 + r, 1);
        }
        Checks.due("22 all eight must go", x.needs(), 255);
        x.change(0, 1, 0);
        Checks.due("22 seven must go", x.needs(), 254);
        x.change(7, 1, 0);
        Checks.due("22 six must go", x.needs(), 126);
        for (int r = 1; r < 7; r++) {
            x.change(r, 1, 0);
        }
        Checks.due("22 none must go", x.needs(), 0);
        x.change(7, 1, 1);
        Checks.due("22 the last must go", x.needs(), 128);
        // by letter 0 either rows 0 and 1 or 2 and 3 hold, by letter 1 either 4 or 5
        ThinBodies y = Checks.told("tie 1 0;tie 1 0;tie 1 0 bound 1;tie 1 0 bound 1;tie 0 1;tie 0 1 bound 1");
        Checks.due("22 three must go, the least of four sets", y.needs(), 1 + 2 + 16);
        // the box has one point alone, the first, or the last, in which few don't hold
        Checks.due("22 by the first point", Checks.told("letters 1;row 1;tie 1 bound 9").needs(), 2);
        Checks.due("22 by the last point", Checks.told("letters 1;least 1 bound 3;tie 1 bound 9").needs(), 2);
        Checks.due("22 rows 0 and 1, or 2 alone", Checks.told("letters 1;row 1;row 1;least 1 bound 1").needs(), 4);
        Checks.due("22 rows 1 and 2, or 0 alone", Checks.told("letters 1;least 1 bound 1;row 1;row 1").needs(), 1);
    }

    private static void withoutEdges() {
        ThinBodies x = new ThinBodies();
        for (int r = 0; r < 8; r++) {
            x.row(0, 0, 1);
        }
        Checks.due("23 all as many: the least", x.without(), 0);
        x.change(7, 1, -1);
        Checks.due("23 only without the last any are in", x.without(), 7);
        x.change(6, 1, -1);
        Checks.due("23 none would be in: the least", x.without(), 0);
        Checks.due("23 one row", Checks.told("row 1 1").without(), 0);
        // without row 0 two are in, without row 1 three, else one
        Checks.due("23 by one more point",
            Checks.told("tie 1 0;tie 0 1 bound 1;row 1 1 bound 2;off 1 0 bound 5 within 2").without(), 1);
        Checks.due("23 by the first point alone", Checks.told("letters 1;tie 1 bound 3;tie 1").without(), 0);
        Checks.due("23 the first point is more than none", Checks.told("letters 1;tie 1;tie 1 bound 9").without(), 1);
        Checks.due("23 the last point is more than none", Checks.told("letters 1;tie 1 bound 3;tie 1 bound 9").without(), 1);
    }

    private static void dueKind(String what, ThinBodies x, int bound, int within, int due) {
        x.change(0, 1, bound);
        x.change(0, 2, within);
        for (int kind = 0; kind < 6; kind++) {
            x.change(0, 0, kind);
            Checks.due("24 " + what + ", being " + kind, x.kind(0), due);
            Checks.due("24 it stays", x.of(0, 0), kind);
        }
    }

    /** For x from -9 to 9: how many are in by each kind is plain. */
    private static void kindEdges() {
        ThinBodies x = Checks.told("letters 1;box 0 -9 9;row 1");
        dueKind("row 19, band 19, comb 19, least 1: the least of three", x, 9, 18, 0);
        dueKind("comb 19, row 18, least 2", x, 8, 1, 3);
        dueKind("row 18, least 2, band 5, comb 10, off 14", x, 8, 2, 0);
        dueKind("least 19, comb 19: the least", x, -9, 1, 3);
        dueKind("least 19, comb 10", x, -9, 2, 5);
        dueKind("band 19, row 10, least 10", x, 0, 9, 2);
        dueKind("off 16, row 10, least 10, band 3, comb 19", x, 0, 1, 3);
        dueKind("off 14, row 10, least 10, band 5, comb 9", x, 0, 2, 4);
        dueKind("row 19, off 19: the least", x, 999, 99, 0);
        dueKind("off 19, least 19: the least", x, -999, 99, 4);
        Checks.read(x, "tie 0 bound 1");
        dueKind("none by any: the least", x, 0, 5, 0);
    }

    private static void boundForEdges() {
        ThinBodies x = Checks.told("letters 1;box 0 -9 9;row 1 within 99");
        int[] due = {-9, -9, -108, -999, -999, -999};
        for (int kind = 0; kind < 6; kind++) {
            x.change(0, 0, kind);
            // -999 is -9 less 990, which is 10 times 99
            Checks.due("25 kind " + kind, x.boundFor(0), due[kind]);
            x.change(0, 1, x.boundFor(0));
            Checks.due("25 any is in", x.many() > 0 ? 1 : 0, 1);
        }
        x.box(0, -8, 9);
        x.change(0, 0, 3);
        Checks.due("25 -8 less 990", x.boundFor(0), -998);
        x.box(0, 9, 9);
        Checks.due("25 9 less 990", x.boundFor(0), -981);
        x.box(0, -9, -9);
        Checks.due("25 -9 less 990", x.boundFor(0), -999);
        x.change(0, 2, 98);
        Checks.due("25 -9 less 980", x.boundFor(0), -989);
        x.change(0, 3, 9);
        Checks.due("25 -81 less 882", x.boundFor(0), -963);
        x.change(0, 2, 1);
        Checks.due("25 by 1", x.boundFor(0), -999);
        ThinBodies far = Checks.told("letters 4;box 0 9 9;box 1 9 9;box 2 9 9;box 3 9 9;tie 9 9 9 9");
        Checks.due("25 324", far.boundFor(0), 324);
        for (int what = 3; what < 7; what++) {
            far.change(0, what, -9);
        }
        Checks.due("25 -324", far.boundFor(0), -324);
        far.change(0, 0, 2);
        far.change(0, 2, 99);
        Checks.due("25 -423", far.boundFor(0), -423);
        far.change(0, 0, 4);
        Checks.due("25 beside", far.boundFor(0), -999);
        far.row(0, -1, 1);
        for (int kind = 0; kind < 6; kind++) {
            far.change(0, 0, kind);
            Checks.due("25 by another row none is in", far.boundFor(0), Checks.NONE);
        }
        far.change(0, 0, 0);
        Checks.due("25 of that row", far.boundFor(1), 0);
        far.change(0, 1, -999);
        Checks.due("25 of that row none, as the other doesn't hold", far.boundFor(1), Checks.NONE);
    }
}
