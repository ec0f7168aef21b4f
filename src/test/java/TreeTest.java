/** Promises 17 to 21: tree, leaf, side, where, judge. */
public final class TreeTest {
    public static void main(String[] args) {
        tree();
        cellsAtTheirEdges();
        leafAndSide();
        middles();
        where();
        judge();
        leafEdges();
        sideEdges();
        whereEdges();
        judgeEdges();
        judgeOfFullSheets();
        Checks.end();
    }

    /** x from 0 to 3, x at most 1: parted once, a whole leaf and a dead one. */
    private static void tree() {
        ThinBodies x = Checks.told("letters 1;row 1 bound 1");
        Checks.due("17 cells", x.tree(0), 3);
        Checks.due("17 deep", x.tree(1), 1);
        Checks.due("17 dead", x.tree(2), 1);
        Checks.due("17 whole", x.tree(3), 1);
        Checks.due("17 what 4", x.tree(4), Checks.BEYOND);
        Checks.due("17 what -1", x.tree(-1), Checks.BEYOND);
        x.change(0, 0, 1);
        Checks.due("17 a tie: cells", x.tree(0), 5);
        Checks.due("17 deep", x.tree(1), 2);
        Checks.due("17 dead", x.tree(2), 2);
        Checks.due("17 whole", x.tree(3), 1);
        x.change(0, 1, 4);
        Checks.due("17 dead at once", x.tree(0), 1);
        Checks.due("17 dead at once", x.tree(1), 0);
        Checks.due("17 dead at once", x.tree(2), 1);
        Checks.due("17 dead at once", x.tree(3), 0);
        Checks.due("17 a new object's", new ThinBodies().tree(0), 1);
        Checks.due("17 a new object's", new ThinBodies().tree(3), 1);
        ThinBodies points = Checks.told("letters 4;box 0 0 7;box 1 0 7;box 2 0 7;box 3 0 7;comb 1 1 1 1 within 2");
        Checks.due("17 each point a leaf", points.tree(0), 8191);
        Checks.due("17 half are dead", points.tree(2), 2048);
        Checks.due("17 half are whole", points.tree(3), 2048);
        Checks.due("18 the last leaf", points.leaf(4095, 0), 1);
        Checks.due("19 the last leaf", points.side(4095, 3, 0), 7);
        Checks.due("18 no more leaves", points.leaf(4096, 0), Checks.NONE);
        ThinBodies deep = Checks.told("letters 4;box 0 -4 4;box 1 -4 4;box 2 -4 4;box 3 -2 2;tie 1 1 1 1 bound -14");
        Checks.due("17 the deepest that can be", deep.tree(1), 15);
        Checks.due("17 the first leaf is the point", deep.leaf(0, 1), 1);
        Checks.due("17 all leaves", deep.tree(2) + deep.tree(3), (deep.tree(0) + 1) / 2);
    }

    /** One letter from 0 to 1 with number 3: sums from 0 to 3, though only 0 and 3 come in points. */
    private static void cellsAtTheirEdges() {
        String[] rows = {"row 3 bound 3", "row 3 bound 2", "row 3 bound -1", "row 3 bound 0",
            "least 3 bound 0", "least 3 bound 1", "least 3 bound 3", "least 3 bound 4",
            "tie 3 bound 1", "tie 3 bound 4", "tie 0 bound 0",
            "band 3 bound 2 within 2", "band 3 bound 1 within 1", "band 3 bound 5 within 1", "band 3 bound 5 within 2",
            "band 3 bound -2 within 1", "band 3 bound -1 within 1",
            "off 3 bound 2 within 2", "off 3 bound 1 within 2", "off 3 bound 1 within 1", "off 3 bound 5 within 1", "off 3 bound -2 within 1",
            "off 3 bound -1 within 1",
            "comb 3 bound 7 within 1", "comb 3 bound 7 within 3", "comb 3 bound 7 within 4", "comb 3 bound 9 within 5",
            "comb 3 bound -1 within 5", "comb 3 bound -1 within 4", "comb 0 bound 4 within 2"};
        // how many cells: 1 if the row is dead or whole at once, else 3
        int[] cells = {1, 3, 1, 3, 1, 3, 3, 1, 3, 1, 1, 1, 3, 1, 3, 1, 3, 1, 1, 3, 1, 1, 3, 1, 3, 3, 1, 1, 3, 1};
        for (int i = 0; i < rows.length; i++) {
            ThinBodies x = Checks.told("letters 1;box 0 0 1;" + rows[i]);
            Checks.due("17 " + rows[i], x.tree(0), cells[i]);
        }
    }

    private static void leafAndSide() {
        ThinBodies x = Checks.told("box 0 0 4;row 1 0 bound 2;least 0 1 bound 2;row 1 0 bound 2");
        // x is wider: 0..2 and 3..4 (dead by row 0); then y of 0..2 by 0..3: 0..1 (dead by row 1), 2..3 (whole)
        Checks.due("17 cells", x.tree(0), 5);
        int[] whole = {0, 1, 0};
        int[] points = {6, 6, 8};
        int[] dead = {1, -1, 0};
        int[][] sides = {{0, 2, 0, 1}, {0, 2, 2, 3}, {3, 4, 0, 3}};
        for (int k = 0; k < 3; k++) {
            Checks.due("18 whole " + k, x.leaf(k, 0), whole[k]);
            Checks.due("18 points " + k, x.leaf(k, 1), points[k]);
            Checks.due("18 dead " + k, x.leaf(k, 2), dead[k]);
            for (int letter = 0; letter < 2; letter++) {
                Checks.due("19 low " + k, x.side(k, letter, 0), sides[k][2 * letter]);
                Checks.due("19 high " + k, x.side(k, letter, 1), sides[k][2 * letter + 1]);
            }
        }
        Checks.due("18 leaf 3", x.leaf(3, 0), Checks.NONE);
        Checks.due("18 leaf -1", x.leaf(-1, 0), Checks.NONE);
        Checks.due("18 what 3", x.leaf(0, 3), Checks.BEYOND);
        Checks.due("18 what -1", x.leaf(0, -1), Checks.BEYOND);
        Checks.due("18 beyond is asked ahead of none", x.leaf(3, 3), Checks.BEYOND);
        Checks.due("19 leaf 3", x.side(3, 0, 0), Checks.NONE);
        Checks.due("19 leaf -1", x.side(-1, 0, 0), Checks.NONE);
        Checks.due("19 letter 2", x.side(0, 2, 0), Checks.BEYOND);
        Checks.due("19 letter -1", x.side(0, -1, 0), Checks.BEYOND);
        Checks.due("19 what 2", x.side(0, 0, 2), Checks.BEYOND);
        Checks.due("19 what -1", x.side(0, 0, -1), Checks.BEYOND);
        Checks.due("19 beyond is asked ahead of none", x.side(3, 2, 0), Checks.BEYOND);
    }

    /** Halves below 0 go towards low, too; of letters that are as wide the least is parted. */
    private static void middles() {
        ThinBodies x = Checks.told("letters 1;box 0 -4 -1;row 1 bound -3");
        Checks.due("19 -4 and -1 are parted at -3", x.side(0, 0, 1), -3);
        Checks.due("19 and -2", x.side(1, 0, 0), -2);
        ThinBodies odd = Checks.told("letters 1;box 0 -2 1;row 1 bound -1");
        Checks.due("19 -2 and 1 are parted at -1", odd.side(0, 0, 1), -1);
        ThinBodies like = Checks.told("letters 3;box 0 0 1;tie 1 1 1 bound 0");
        Checks.due("19 letter 1 is parted first", like.side(0, 1, 1), 0);
        Checks.due("19 the last leaf", like.side(like.tree(2) + like.tree(3) - 1, 1, 0), 2);
    }

    private static void where() {
        ThinBodies x = Checks.told("letters 1;row 1 bound 1");
        Checks.due("20 sheet 4", x.where(4), Checks.BEYOND);
        Checks.due("20 sheet -1", x.where(-1), Checks.BEYOND);
        Checks.due("20 missing", x.where(0), Checks.MISSING);
        x.sheet(0, 8, 0);
        Checks.due("20 size", x.where(0), Checks.SIZE);
        for (int i = 0; i < 4; i++) {
            Checks.lay(x, 0, i, 77);
            Checks.due("20 leaf of " + i, x.where(0), i / 2);
        }
        Checks.lay(x, 0, 4);
        Checks.due("20 beside the box", x.where(0), Checks.NONE);
        Checks.lay(x, 0, -1);
        Checks.due("20 beside the box", x.where(0), Checks.NONE);
        Checks.lay(x, 0, 1L << 32);
        Checks.due("20 far from the box", x.where(0), Checks.NONE);
    }

    private static void judge() {
        ThinBodies x = Checks.told("letters 1;tie 1 bound 1");
        Checks.due("21 sheet 4", x.judge(4), Checks.BEYOND);
        Checks.due("21 sheet -1", x.judge(-1), Checks.BEYOND);
        Checks.due("21 missing", x.judge(2), Checks.MISSING);
        Checks.lay(x, 2, -1, 1, -2);
        Checks.due("21 so", x.judge(2), 0);
        Checks.lay(x, 2, 1, 1, -2);
        Checks.due("21 the first isn't so", x.judge(2), 1);
        Checks.lay(x, 2, -1, 1, -1, 5);
        Checks.due("21 the third isn't so", x.judge(2), 3);
        Checks.lay(x, 2, -1, 1);
        Checks.due("21 the third lacks", x.judge(2), 3);
        Checks.lay(x, 2, -1, 1, -2, 0);
        Checks.due("21 the fourth is too many", x.judge(2), 4);
        Checks.lay(x, 2);
        Checks.due("21 all lack", x.judge(2), 1);
        Checks.lay(x, 2, -1 + (1L << 32), 1, -2);
        Checks.due("21 all bits count", x.judge(2), 1);
    }

    private static void leafEdges() {
        ThinBodies x = new ThinBodies();
        Checks.due("18 no rows: whole", x.leaf(0, 0), 1);
        Checks.due("18 all points", x.leaf(0, 1), 16);
        Checks.due("18 no row is dead", x.leaf(0, 2), -1);
        Checks.due("18 one leaf", x.leaf(1, 0), Checks.NONE);
        for (int r = 0; r < 8; r++) {
            x.row(0, 0, 1);
        }
        x.change(7, 1, -1);
        Checks.due("18 dead", x.leaf(0, 0), 0);
        Checks.due("18 by the last row", x.leaf(0, 2), 7);
        x.change(3, 1, -1);
        Checks.due("18 the least of two", x.leaf(0, 2), 3);
        x.change(0, 1, -1);
        Checks.due("18 the least of three", x.leaf(0, 2), 0);
        ThinBodies full = Checks.told("letters 4;box 0 0 7;box 1 0 7;box 2 0 7;box 3 0 7");
        Checks.due("18 4096 points in a leaf", full.leaf(0, 1), 4096);
        Checks.due("17 one cell", full.tree(0), 1);
        full.row(1, 0, 1);
        full.change(0, 6, 1);
        // the letters are parted in turn, three times; each time 30 cells come to one, and 8 of the last 16 go on
        Checks.due("17 cells", full.tree(0), 1 + 30 * (1 + 8 + 64));
        Checks.due("17 deep", full.tree(1), 12);
        Checks.due("17 dead", full.tree(2), 8 * (1 + 8 + 64));
        Checks.due("17 whole", full.tree(3), 512);
        Checks.due("18 the last leaf: 4 to 7 in each letter", full.leaf(8 * (1 + 8 + 64) + 511, 1), 256);
        Checks.due("18 no more", full.leaf(8 * (1 + 8 + 64) + 512, 1), Checks.NONE);
    }

    private static void sideEdges() {
        for (int n = 1; n <= 4; n++) {
            ThinBodies x = new ThinBodies();
            x.letters(n);
            for (int i = 0; i < n; i++) {
                x.box(i, -9 + i, -8 + i);
            }
            for (int i = 0; i < n; i++) {
                Checks.due("19 low of the root", x.side(0, i, 0), -9 + i);
                Checks.due("19 high of the root", x.side(0, i, 1), -8 + i);
            }
            Checks.due("19 no such letter", x.side(0, n, 0), Checks.BEYOND);
            Checks.due("19 one leaf", x.side(1, n - 1, 0), Checks.NONE);
        }
        ThinBodies x = Checks.told("letters 1;box 0 -9 9;tie 1 bound 9");
        int last = x.tree(2) + x.tree(3) - 1;
        Checks.due("19 the last leaf", x.side(last, 0, 0), 9);
        Checks.due("19 the last leaf", x.side(last, 0, 1), 9);
        Checks.due("19 the first leaf", x.side(0, 0, 0), -9);
        Checks.due("19 the first leaf", x.side(0, 0, 1), 0);
        x.box(0, 1, 9);
        Checks.due("19 the box changed", x.side(0, 0, 0), 1);
    }

    /** A point just inside and just outside each side of the box. */
    private static void whereEdges() {
        ThinBodies x = Checks.told("letters 4;box 0 -2 -1;box 1 3 5;box 2 0 0;box 3 -9 9;row 0 0 0 1");
        Checks.due("17 a whole leaf", x.tree(3), 1);
        Checks.due("17 a dead one", x.tree(2), 1);
        long[] inside = {-2, 4, 0, -3};
        int[][] sides = {{-2, -1}, {3, 5}, {0, 0}, {-9, 9}};
        for (int i = 0; i < 4; i++) {
            long was = inside[i];
            for (int end = 0; end < 2; end++) {
                inside[i] = sides[i][end];
                Checks.lay(x, 1, inside);
                Checks.due("20 at a side of letter " + i, x.where(1), inside[3] <= 0 ? 0 : 1);
                inside[i] += end == 0 ? -1 : 1;
                Checks.lay(x, 1, inside);
                Checks.due("20 beside letter " + i, x.where(1), Checks.NONE);
            }
            inside[i] = was;
        }
        Checks.lay(x, 3, -1, 3, 0, 0, 99);
        Checks.due("20 sheet 3, the middle is of the first leaf", x.where(3), 0);
        Checks.lay(x, 3, -1, 3, 0, 1);
        Checks.due("20 one more is of the second", x.where(3), 1);
        x.sheet(3, 64, 3);
        Checks.due("20 3 numbers for 4 letters", x.where(3), Checks.SIZE);
        Checks.lay(x, 0, Long.MIN_VALUE, 3, 0, 0);
        Checks.due("20 the least long", x.where(0), Checks.NONE);
        Checks.lay(x, 0, -1, 3, 0, Long.MAX_VALUE);
        Checks.due("20 the greatest long", x.where(0), Checks.NONE);
        x.sheet(0, 8, 4);
        x.write(0, 0, 254);
        x.write(0, 1, 259);
        Checks.due("20 the lowest 8 bits: -2 and 3", x.where(0), 0);
        x.drop();
        Checks.lay(x, 0, -1, 3, 0, 9);
        Checks.due("20 the body changed: one leaf", x.where(0), 0);
        x.letters(1);
        Checks.due("20 the other letters went", x.where(0), 0);
        Checks.lay(x, 0, -3);
        Checks.due("20 beside", x.where(0), Checks.NONE);
    }

    private static void judgeEdges() {
        ThinBodies x = new ThinBodies();
        Checks.lay(x, 3, 16);
        Checks.due("21 sheet 3: one whole leaf", x.judge(3), 0);
        Checks.lay(x, 3, -16);
        Checks.due("21 it isn't dead", x.judge(3), 1);
        Checks.lay(x, 3, 15);
        Checks.due("21 it isn't 15", x.judge(3), 1);
        Checks.lay(x, 3, 17);
        Checks.due("21 it isn't 17", x.judge(3), 1);
        Checks.lay(x, 3, 16, 0);
        Checks.due("21 number 1 is too many", x.judge(3), 2);
        Checks.lay(x, 3, 0, 16);
        Checks.due("21 number 0 isn't so", x.judge(3), 1);
        x.sheet(3, 8, 0);
        Checks.due("21 number 0 lacks", x.judge(3), 1);
        x.sheet(3, 8, 40);
        x.write(3, 0, 16);
        Checks.due("21 number 1 is too many, and all behind it", x.judge(3), 2);
        x.row(0, -1, 1);
        Checks.lay(x, 3, -16);
        Checks.due("21 dead", x.judge(3), 0);
        // 128 points: 8 bits tell -128, but not 128
        x.letters(3);
        x.box(0, 0, 7);
        x.sheet(3, 8, 1);
        x.write(3, 0, -128);
        Checks.due("21 -128 in 8 bits", x.judge(3), 0);
        x.drop();
        x.write(3, 0, 128);
        Checks.due("21 128 isn't told by 8 bits", x.judge(3), 1);
        x.sheet(3, 16, 1);
        x.write(3, 0, 128);
        Checks.due("21 but by 16", x.judge(3), 0);
        x.letters(2);
        Checks.due("21 n doesn't matter for what is judged", x.judge(3), 1);
    }

    /** 5 by 8 points, each a leaf of its own, fill a sheet; of 6 by 7 two lack. */
    private static void judgeOfFullSheets() {
        ThinBodies x = Checks.told("box 0 0 4;box 1 0 7;comb 1 1 within 2");
        Checks.due("17 leaves", x.tree(2) + x.tree(3), 40);
        x.sheet(0, 8, 40);
        for (int k = 0; k < 40; k++) {
            x.write(0, k, x.leaf(k, 0) == 1 ? 1 : -1);
        }
        Checks.due("21 all 40", x.judge(0), 0);
        x.write(0, 39, 1 + x.leaf(39, 0));
        Checks.due("21 the last isn't so", x.judge(0), 40);
        x.sheet(1, 8, 39);
        x.copy(0, 0, 1, 0, 39);
        Checks.due("21 the last lacks", x.judge(1), 40);
        x.box(0, 0, 5);
        x.box(1, 0, 6);
        x.sheet(0, 8, 40);
        for (int k = 0; k < 40; k++) {
            x.write(0, k, x.leaf(k, 0) == 1 ? 1 : -1);
        }
        Checks.due("17 leaves", x.tree(2) + x.tree(3), 42);
        Checks.due("21 the 41st lacks", x.judge(0), 41);
    }
}
