/** Promises 1 to 9: a new object, letters, box, boxOf, row, of, change, as, drop. */
public final class LettersTest {
    public static void main(String[] args) {
        newObject();
        letters();
        lettersAndWhatStays();
        box();
        boxOf();
        row();
        of();
        change();
        as();
        drop();
        lettersEdges();
        boxEdges();
        rowEdges();
        dropEdges();
        atTheLastRow();
        Checks.end();
    }

    private static void newObject() {
        ThinBodies x = new ThinBodies();
        Checks.due("1 count(0)", x.count(0), 2);
        Checks.due("1 count(1)", x.count(1), 0);
        Checks.due("1 count(2)", x.count(2), 16);
        Checks.due("1 count(3)", x.count(3), 0);
        Checks.due("1 undo()", x.undo(), Checks.NONE);
        Checks.due("1 status(-1)", x.status(-1), 1);
        for (int i = 0; i < 2; i++) {
            Checks.due("1 boxOf low", x.boxOf(i, 0), 0);
            Checks.due("1 boxOf high", x.boxOf(i, 1), 3);
        }
        for (int s = 0; s < 4; s++) {
            Checks.due("1 sheets are missing", x.write(s, 0, 1), Checks.MISSING);
        }
        Checks.due("1 det()", x.det(), 1);
    }

    private static void letters() {
        ThinBodies x = new ThinBodies();
        Checks.due("2 letters(0)", x.letters(0), Checks.BEYOND);
        Checks.due("2 letters(5)", x.letters(5), Checks.BEYOND);
        Checks.due("2 letters(min)", x.letters(Integer.MIN_VALUE), Checks.BEYOND);
        Checks.due("2 letters(max)", x.letters(Integer.MAX_VALUE), Checks.BEYOND);
        Checks.due("2 letters(4)", x.letters(4), 2);
        Checks.due("2 points", x.count(2), 256);
        Checks.due("2 letters(1)", x.letters(1), 4);
        Checks.due("2 letters(1) again", x.letters(1), 1);
        Checks.due("2 points", x.count(2), 4);
        x.letters(2);
        x.box(0, -9, 9);
        x.box(1, -9, 9);
        Checks.due("2 letters(3): 1444", x.letters(3), 2);
        x.letters(2);
        Checks.due("2 letters(4): 5776", x.letters(4), Checks.FULL);
        Checks.due("2 nothing changed", x.count(0), 2);
        x.box(1, -7, 8);
        x.box(0, -7, 8);
        x.letters(3);
        x.box(2, -7, 8);
        x.letters(2);
        Checks.due("2 letters(4): 4096, a side that went doesn't matter", x.letters(4), 2);
        Checks.due("2 points", x.count(2), 4096);
    }

    private static void lettersAndWhatStays() {
        ThinBodies x = new ThinBodies();
        x.box(1, -2, 7);
        x.letters(1);
        x.letters(2);
        Checks.due("2 a letter that comes has 0", x.boxOf(1, 0), 0);
        Checks.due("2 and 3", x.boxOf(1, 1), 3);
        x.row(0, 0, 1);
        x.change(0, 6, 7);
        x.change(0, 4, 5);
        x.letters(1);
        Checks.due("2 numbers don't count", x.of(0, 8), 0);
        Checks.due("2 but stay", x.of(0, 4), 5);
        Checks.due("2 but stay", x.of(0, 6), 7);
        x.letters(4);
        Checks.due("2 and count again", x.of(0, 8), 36);
        x.base(0, 1, 3);
        x.letters(4);
        Checks.due("2 n didn't change", x.baseOf(0, 1), 3);
        x.letters(3);
        Checks.due("2 n changed", x.baseOf(0, 1), 0);
    }

    private static void box() {
        ThinBodies x = new ThinBodies();
        Checks.due("3 box(0, -9, 9)", x.box(0, -9, 9), 76);
        Checks.due("3 box(1, 9, 9)", x.box(1, 9, 9), 19);
        Checks.due("3 box(1, -9, -9)", x.box(1, -9, -9), 19);
        Checks.due("3 letter 2", x.box(2, 0, 1), Checks.BEYOND);
        Checks.due("3 letter -1", x.box(-1, 0, 1), Checks.BEYOND);
        Checks.due("3 low -10", x.box(0, -10, 1), Checks.BEYOND);
        Checks.due("3 low 10", x.box(0, 10, 10), Checks.BEYOND);
        Checks.due("3 high 10", x.box(0, 0, 10), Checks.BEYOND);
        Checks.due("3 high min", x.box(0, 0, Integer.MIN_VALUE), Checks.BEYOND);
        Checks.due("3 low above high", x.box(0, 1, 0), Checks.BEYOND);
        Checks.due("3 nothing changed", x.count(2), 19);
        x.letters(4);
        x.box(0, 0, 7);
        x.box(1, 0, 7);
        x.box(2, 0, 7);
        Checks.due("3 4096 points", x.box(3, 0, 7), 4096);
        Checks.due("3 4608 points", x.box(3, 0, 8), Checks.FULL);
        Checks.due("3 beyond is asked ahead of full", x.box(3, -9, 10), Checks.BEYOND);
        Checks.due("3 nothing changed", x.boxOf(3, 1), 7);
        Checks.due("3 many follows", x.many(), 4096);
        x.box(3, 2, 3);
        Checks.due("3 many follows", x.many(), 1024);
    }

    private static void boxOf() {
        ThinBodies x = new ThinBodies();
        x.box(1, -4, 6);
        Checks.due("4 low", x.boxOf(1, 0), -4);
        Checks.due("4 high", x.boxOf(1, 1), 6);
        Checks.due("4 letter 2", x.boxOf(2, 0), Checks.BEYOND);
        Checks.due("4 letter -1", x.boxOf(-1, 0), Checks.BEYOND);
        Checks.due("4 what 2", x.boxOf(0, 2), Checks.BEYOND);
        Checks.due("4 what -1", x.boxOf(0, -1), Checks.BEYOND);
    }

    private static void row() {
        ThinBodies x = new ThinBodies();
        Checks.due("5 kind 6", x.row(6, 0, 1), Checks.BEYOND);
        Checks.due("5 kind -1", x.row(-1, 0, 1), Checks.BEYOND);
        Checks.due("5 bound 1000", x.row(0, 1000, 1), Checks.BEYOND);
        Checks.due("5 bound -1000", x.row(0, -1000, 1), Checks.BEYOND);
        Checks.due("5 within 0", x.row(0, 0, 0), Checks.BEYOND);
        Checks.due("5 within 100", x.row(0, 0, 100), Checks.BEYOND);
        for (int r = 0; r < 8; r++) {
            Checks.due("5 row", x.row(r % 6, r % 2 == 0 ? 999 : -999, r % 2 == 0 ? 99 : 1), r);
        }
        Checks.due("5 a 9th", x.row(0, 0, 1), Checks.FULL);
        Checks.due("5 beyond is asked ahead of full", x.row(0, 0, 0), Checks.BEYOND);
        Checks.due("5 rows", x.count(1), 8);
        x.change(7, 3, 4);
        x.drop();
        x.row(2, 1, 2);
        Checks.due("5 a new row has numbers 0", x.of(7, 3), 0);
    }

    private static void of() {
        ThinBodies x = Checks.told("letters 3;box 0 -2 5;box 2 -9 1;comb 2 -3 4 bound -17 within 12");
        Checks.due("6 kind", x.of(0, 0), 3);
        Checks.due("6 bound", x.of(0, 1), -17);
        Checks.due("6 within", x.of(0, 2), 12);
        Checks.due("6 number 0", x.of(0, 3), 2);
        Checks.due("6 number 1", x.of(0, 4), -3);
        Checks.due("6 number 2", x.of(0, 5), 4);
        Checks.due("6 number 3", x.of(0, 6), 0);
        Checks.due("6 least", x.of(0, 7), -4 - 9 - 36);
        Checks.due("6 most", x.of(0, 8), 10 + 4);
        Checks.due("6 what 9", x.of(0, 9), Checks.BEYOND);
        Checks.due("6 what -1", x.of(0, -1), Checks.BEYOND);
        Checks.due("6 row 1", x.of(1, 0), Checks.BEYOND);
        Checks.due("6 row -1", x.of(-1, 0), Checks.BEYOND);
    }

    private static void change() {
        ThinBodies x = new ThinBodies();
        Checks.due("7 no rows", x.change(0, 0, 0), Checks.BEYOND);
        x.row(1, 5, 6);
        int[] least = {0, -999, 1, -9, -9, -9, -9};
        int[] most = {5, 999, 99, 9, 9, 9, 9};
        int[] was = {1, 5, 6, 0, 0, 0, 0};
        for (int what = 0; what < 7; what++) {
            Checks.due("7 what it was", x.change(0, what, least[what]), was[what]);
            Checks.due("7 least", x.change(0, what, most[what]), least[what]);
            Checks.due("7 below least", x.change(0, what, least[what] - 1), Checks.BEYOND);
            Checks.due("7 above most", x.change(0, what, most[what] + 1), Checks.BEYOND);
            Checks.due("7 most stays", x.of(0, what), most[what]);
        }
        Checks.due("7 what 7", x.change(0, 7, 0), Checks.BEYOND);
        Checks.due("7 what -1", x.change(0, -1, 0), Checks.BEYOND);
        Checks.due("7 row 1", x.change(1, 0, 0), Checks.BEYOND);
        Checks.due("7 row -1", x.change(-1, 0, 0), Checks.BEYOND);
    }

    private static void as() {
        ThinBodies x = new ThinBodies();
        for (int kind = 0; kind < 6; kind++) {
            x.row(kind, 10 + kind, 1);
        }
        int[][] fits = {{0}, {1, 0}, {2, 0}, {3, 1, 0}, {4, 2, 0}, {5, 0}};
        for (int row = 0; row < 6; row++) {
            for (int kind = 0; kind < 6; kind++) {
                boolean fit = false;
                for (int k : fits[row]) {
                    fit |= k == kind;
                }
                Checks.due("8 as(" + row + ", " + kind + ")", x.as(row, kind), fit ? 10 + row : Checks.KIND);
            }
        }
        Checks.due("8 row 6", x.as(6, 0), Checks.BEYOND);
        Checks.due("8 row -1", x.as(-1, 0), Checks.BEYOND);
        Checks.due("8 kind 6", x.as(0, 6), Checks.BEYOND);
        Checks.due("8 kind -1", x.as(0, -1), Checks.BEYOND);
    }

    private static void drop() {
        ThinBodies x = Checks.told("tie 1 0 bound 1;tie 0 1 bound 2");
        Checks.due("9 many", x.many(), 1);
        Checks.due("9 drop", x.drop(), 1);
        Checks.due("9 the last went", x.of(0, 1), 1);
        Checks.due("9 many", x.many(), 4);
        Checks.due("9 drop", x.drop(), 0);
        Checks.due("9 many", x.many(), 16);
        Checks.due("9 none", x.drop(), Checks.NONE);
    }

    /** Of the numbers of points that a box can have 4104 is the first above 4096. */
    private static void lettersEdges() {
        ThinBodies x = new ThinBodies();
        int was = 2;
        for (int v : new int[] {1, 1, 4, 4, 3, 2, 4, 1, 3}) {
            Checks.due("2 letters(" + v + ")", x.letters(v), was);
            Checks.due("2 so many", x.count(0), v);
            was = v;
        }
        x = Checks.told("letters 3;box 0 -9 9;box 1 -9 8;box 2 0 2");
        Checks.due("2 19 by 18 by 3 by 4", x.letters(4), Checks.FULL);
        Checks.due("2 as it was", x.count(2), 1026);
        x.box(2, 0, 1);
        Checks.due("2 19 by 18 by 2 by 4", x.letters(4), 3);
        Checks.due("2 points", x.count(2), 2736);
        x = Checks.told("letters 3;box 0 0 7;box 1 0 7;box 2 -8 7");
        Checks.due("2 8 by 8 by 16 by 4", x.letters(4), 3);
        Checks.due("2 4096", x.count(2), 4096);
        Checks.due("2 as many letters as there are", x.letters(4), 4);
        Checks.due("2 fewer letters", x.letters(3), 4);
        Checks.due("2 points", x.count(2), 1024);
        x = Checks.told("box 0 -9 9;box 1 -9 4");
        Checks.due("2 19 by 14 by 4 by 4", x.letters(4), Checks.FULL);
        Checks.due("2 19 by 14 by 4", x.letters(3), 2);
        Checks.due("2 points", x.count(2), 1064);
        Checks.due("2 many follows", x.many(), 1064);
        Checks.due("2 tree follows", x.leaf(0, 1), 1064);
        x.letters(1);
        Checks.due("2 many follows", x.many(), 19);
        Checks.due("2 tree follows", x.leaf(0, 1), 19);
    }

    private static void boxEdges() {
        for (int n = 1; n <= 4; n++) {
            ThinBodies x = new ThinBodies();
            x.letters(n);
            for (int i = 0; i < n; i++) {
                Checks.due("3 the lowest alone", x.box(i, -9, -9), 1 << (2 * (n - 1)));
                Checks.due("4 low", x.boxOf(i, 0), -9);
                Checks.due("4 high", x.boxOf(i, 1), -9);
                Checks.due("3 the highest alone", x.box(i, 9, 9), 1 << (2 * (n - 1)));
                Checks.due("4 low", x.boxOf(i, 0), 9);
                Checks.due("4 high", x.boxOf(i, 1), 9);
                Checks.due("3 from lowest to highest", x.box(i, -9, 9), 19 << (2 * (n - 1)));
                Checks.due("3 below the lowest", x.box(i, -10, 9), Checks.BEYOND);
                Checks.due("3 above the highest", x.box(i, -9, 10), Checks.BEYOND);
                Checks.due("3 low one more than high", x.box(i, 5, 4), Checks.BEYOND);
                Checks.due("4 low", x.boxOf(i, 0), -9);
                Checks.due("4 high", x.boxOf(i, 1), 9);
                Checks.due("3 low just high", x.box(i, 4, 4), 1 << (2 * (n - 1)));
                x.box(i, 0, 3);
            }
            Checks.due("3 no such letter", x.box(n, 0, 0), Checks.BEYOND);
            Checks.due("4 no such letter", x.boxOf(n, 0), Checks.BEYOND);
        }
        ThinBodies x = Checks.told("letters 3;box 0 -9 9;box 1 -9 8");
        Checks.due("3 19 by 18 by 11", x.box(2, -9, 1), 3762);
        Checks.due("3 19 by 18 by 12", x.box(2, -9, 2), Checks.FULL);
        Checks.due("3 as it was", x.boxOf(2, 1), 1);
        Checks.due("3 as many", x.box(2, -1, 9), 3762);
        Checks.due("3 less", x.box(2, 0, 0), 342);
        Checks.due("3 tree follows", x.leaf(0, 1), 342);
        ThinBodies full = Checks.told("letters 4;box 0 0 7;box 1 0 7;box 2 0 7;box 3 0 7");
        for (int i = 0; i < 4; i++) {
            Checks.due("3 one more by any letter", full.box(i, 0, 8), Checks.FULL);
            Checks.due("3 4096 elsewhere", full.box(i, -7, 0), 4096);
            Checks.due("3 one less by any letter", full.box(i, 0, 6), 3584);
            Checks.due("3 and one more", full.box(i, 0, 7), 4096);
        }
        Checks.due("45 full", full.count(2), 4096);
    }

    private static void rowEdges() {
        for (int kind = 0; kind < 6; kind++) {
            for (int bound : new int[] {-999, -998, 0, 998, 999}) {
                for (int within : new int[] {1, 2, 98, 99}) {
                    ThinBodies x = new ThinBodies();
                    Checks.due("5 row", x.row(kind, bound, within), 0);
                    Checks.due("6 kind", x.of(0, 0), kind);
                    Checks.due("6 bound", x.of(0, 1), bound);
                    Checks.due("6 within", x.of(0, 2), within);
                    for (int what = 3; what <= 8; what++) {
                        Checks.due("6 all 0", x.of(0, what), 0);
                    }
                }
            }
        }
        ThinBodies x = new ThinBodies();
        x.many();
        x.tree(0);
        x.row(0, -1, 1);
        Checks.due("5 many follows", x.many(), 0);
        Checks.due("5 tree follows", x.tree(2), 1);
        for (int what = 0; what < 7; what++) {
            x.change(0, what, 1);
        }
        x.drop();
        x.row(0, 0, 5);
        for (int what = 3; what < 7; what++) {
            Checks.due("5 numbers 0, also for letters that there are not", x.of(0, what), 0);
        }
    }

    private static void dropEdges() {
        ThinBodies x = new ThinBodies();
        Checks.due("9 none at first", x.drop(), Checks.NONE);
        for (int r = 0; r < 8; r++) {
            x.row(0, r, 1);
        }
        Checks.due("5 full", x.row(0, 0, 1), Checks.FULL);
        Checks.due("9 seven are left", x.drop(), 7);
        Checks.due("6 the last is gone", x.of(7, 1), Checks.BEYOND);
        Checks.due("6 the last now", x.of(6, 1), 6);
        Checks.due("5 there is room for one", x.row(5, -3, 2), 7);
        Checks.due("5 full", x.row(0, 0, 1), Checks.FULL);
        for (int left = 7; left >= 0; left--) {
            Checks.due("9 left", x.drop(), left);
            Checks.due("45 rows", x.count(1), left);
        }
        Checks.due("9 none", x.drop(), Checks.NONE);
        Checks.due("45 rows", x.count(1), 0);
        Checks.due("6 no row", x.of(0, 0), Checks.BEYOND);
        Checks.due("8 no row", x.as(0, 0), Checks.BEYOND);
        Checks.due("5 the first again", x.row(0, 0, 1), 0);
    }

    /** With eight rows row 7 is there, for each act, and row 8 isn't. */
    private static void atTheLastRow() {
        ThinBodies x = new ThinBodies();
        for (int r = 0; r < 8; r++) {
            x.row(r == 7 ? 3 : 0, 50 + r, 4);
        }
        Checks.due("6 row 7", x.of(7, 1), 57);
        Checks.due("6 row 8", x.of(8, 1), Checks.BEYOND);
        Checks.due("7 row 7", x.change(7, 1, 60), 57);
        Checks.due("7 row 8", x.change(8, 1, 60), Checks.BEYOND);
        Checks.due("8 row 7", x.as(7, 1), 60);
        Checks.due("8 row 8", x.as(8, 1), Checks.BEYOND);
        Checks.due("24 row 7", x.kind(7), 0);
        Checks.due("24 row 8", x.kind(8), Checks.BEYOND);
        Checks.due("25 row 7", x.boundFor(7), -996);
        Checks.due("25 row 8", x.boundFor(8), Checks.BEYOND);
        Checks.due("7 others are as they were", x.of(6, 1), 56);
        x.change(7, 1, 61);
        Checks.due("7 many follows", x.many(), 0);
        Checks.due("7 tree follows", x.leaf(0, 2), 7);
    }
}
