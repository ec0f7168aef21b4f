/** Promises 17 to 21: tree, leaf, side, where, judge. */
public final class TreeTest {
    public static void main(String[] args) {
        tree();
        cellsAtTheirEdges();
        leafAndSide();
        middles();
        where();
        judge();
        Checks.end();
    }

    /** x from 0 to 3, x at most 1: parted once, a whole leaf and a dead one. */
    private static void tree() {
        ThinBodies x = Checks.told("letters 1;row 1 bound 1");
        Checks.due("17 cells", x.tree(0), 3);
        Checks.due("17 deep", x.tree(1), 1);
        Checks.due("17 dead", x.tree(2), 1);
        Checks.due("17 whole", x.tree(3), 1);
        Checks.due("17 what 4", x.tree(4), Checks.BEYOND);
        Checks.due("17 what -1", x.tree(-1), Checks.BEYOND);
        x.change(0, 0, 1);
        Checks.due("17 a tie: cells", x.tree(0), 5);
        Checks.due("17 deep", x.tree(1), 2);
        Checks.due("17 dead", x.tree(2), 2);
        Checks.due("17 whole", x.tree(3), 1);
        x.change(0, 1, 4);
        Checks.due("17 dead at once", x.tree(0), 1);
        Checks.due("17 dead at once", x.tree(1), 0);
        Checks.due("17 dead at once", x.tree(2), 1);
        Checks.due("17 dead at once", x.tree(3), 0);
        Checks.due("17 a new object's", new ThinBodies().tree(0), 1);
        Checks.due("17 a new object's", new ThinBodies().tree(3), 1);
        ThinBodies points = Checks.told("letters 4;box 0 0 7;box 1 0 7;box 2 0 7;box 3 0 7;comb 1 1 1 1 within 2");
        Checks.due("17 each point a leaf", points.tree(0), 8191);
        Checks.due("17 half are dead", points.tree(2), 2048);
        Checks.due("17 half are whole", points.tree(3), 2048);
        Checks.due("18 the last leaf", points.leaf(4095, 0), 1);
        Checks.due("19 the last leaf", points.side(4095, 3, 0), 7);
        Checks.due("18 no more leaves", points.leaf(4096, 0), Checks.NONE);
        ThinBodies deep = Checks.told("letters 4;box 0 -4 4;box 1 -4 4;box 2 -4 4;box 3 -2 2;tie 1 1 1 1 bound -14");
        Checks.due("17 the deepest that can be", deep.tree(1), 15);
        Checks.due("17 the first leaf is the point", deep.leaf(0, 1), 1);
        Checks.due("17 all leaves", deep.tree(2) + deep.tree(3), (deep.tree(0) + 1) / 2);
    }

    /** One letter from 0 to 1 with number 3: sums from 0 to 3, though only 0 and 3 come in points. */
    private static void cellsAtTheirEdges() {
        String[] rows = {"row 3 bound 3", "row 3 bound 2", "row 3 bound -1", "row 3 bound 0",
            "least 3 bound 0", "least 3 bound 1", "least 3 bound 3", "least 3 bound 4",
            "tie 3 bound 1", "tie 3 bound 4", "tie 0 bound 0",
            "band 3 bound 2 within 2", "band 3 bound 1 within 1", "band 3 bound 5 within 1", "band 3 bound 5 within 2",
            "band 3 bound -2 within 1", "band 3 bound -1 within 1",
            "off 3 bound 2 within 2", "off 3 bound 1 within 2", "off 3 bound 1 within 1", "off 3 bound 5 within 1", "off 3 bound -2 within 1",
            "off 3 bound -1 within 1",
            "comb 3 bound 7 within 1", "comb 3 bound 7 within 3", "comb 3 bound 7 within 4", "comb 3 bound 9 within 5",
            "comb 3 bound -1 within 5", "comb 3 bound -1 within 4", "comb 0 bound 4 within 2"};
        // how many cells: 1 if the row is dead or whole at once, else 3
        int[] cells = {1, 3, 1, 3, 1, 3, 3, 1, 3, 1, 1, 1, 3, 1, 3, 1, 3, 1, 1, 3, 1, 1, 3, 1, 3, 3, 1, 1, 3, 1};
        for (int i = 0; i < rows.length; i++) {
            ThinBodies x = Checks.told("letters 1;box 0 0 1;" + rows[i]);
            Checks.due("17 " + rows[i], x.tree(0), cells[i]);
        }
    }

    private static void leafAndSide() {
        ThinBodies x = Checks.told("box 0 0 4;row 1 0 bound 2;least 0 1 bound 2;row 1 0 bound 2");
        // x is wider: 0..2 and 3..4 (dead by row 0); then y of 0..2 by 0..3: 0..1 (dead by row 1), 2..3 (whole)
        Checks.due("17 cells", x.tree(0), 5);
        int[] whole = {0, 1, 0};
        int[] points = {6, 6, 8};
        int[] dead = {1, -1, 0};
        int[][] sides = {{0, 2, 0, 1}, {0, 2, 2, 3}, {3, 4, 0, 3}};
        for (int k = 0; k < 3; k++) {
            Checks.due("18 whole " + k, x.leaf(k, 0), whole[k]);
            Checks.due("18 points " + k, x.leaf(k, 1), points[k]);
            Checks.due("18 dead " + k, x.leaf(k, 2), dead[k]);
            for (int letter = 0; letter < 2; letter++) {
                Checks.due("19 low " + k, x.side(k, letter, 0), sides[k][2 * letter]);
                Checks.due("19 high " + k, x.side(k, letter, 1), sides[k][2 * letter + 1]);
            }
        }
        Checks.due("18 leaf 3", x.leaf(3, 0), Checks.NONE);
        Checks.due("18 leaf -1", x.leaf(-1, 0), Checks.NONE);
        Checks.due("18 what 3", x.leaf(0, 3), Checks.BEYOND);
        Checks.due("18 what -1", x.leaf(0, -1), Checks.BEYOND);
        Checks.due("18 beyond is asked ahead of none", x.leaf(3, 3), Checks.BEYOND);
        Checks.due("19 leaf 3", x.side(3, 0, 0), Checks.NONE);
        Checks.due("19 leaf -1", x.side(-1, 0, 0), Checks.NONE);
        Checks.due("19 letter 2", x.side(0, 2, 0), Checks.BEYOND);
        Checks.due("19 letter -1", x.side(0, -1, 0), Checks.BEYOND);
        Checks.due("19 what 2", x.side(0, 0, 2), Checks.BEYOND);
        Checks.due("19 what -1", x.side(0, 0, -1), Checks.BEYOND);
        Checks.due("19 beyond is asked ahead of none", x.side(3, 2, 0), Checks.BEYOND);
    }

    /** Halves below 0 go towards low, too; of letters that are as wide the least is parted. */
    private static void middles() {
        ThinBodies x = Checks.told("letters 1;box 0 -4 -1;row 1 bound -3");
        Checks.due("19 -4 and -1 are parted at -3", x.side(0, 0, 1), -3);
        Checks.due("19 and -2", x.side(1, 0, 0), -2);
        ThinBodies odd = Checks.told("letters 1;box 0 -2 1;row 1 bound -1");
        Checks.due("19 -2 and 1 are parted at -1", odd.side(0, 0, 1), -1);
        ThinBodies like = Checks.told("letters 3;box 0 0 1;tie 1 1 1 bound 0");
        Checks.due("19 letter 1 is parted first", like.side(0, 1, 1), 0);
        Checks.due("19 the last leaf", like.side(like.tree(2) + like.tree(3) - 1, 1, 0), 2);
    }

    private static void where() {
        ThinBodies x = Checks.told("letters 1;row 1 bound 1");
        Checks.due("20 sheet 4", x.where(4), Checks.BEYOND);
        Checks.due("20 sheet -1", x.where(-1), Checks.BEYOND);
        Checks.due("20 missing", x.where(0), Checks.MISSING);
        x.sheet(0, 8, 0);
        Checks.due("20 size", x.where(0), Checks.SIZE);
        for (int i = 0; i < 4; i++) {
            Checks.lay(x, 0, i, 77);
            Checks.due("20 leaf of " + i, x.where(0), i / 2);
        }
        Checks.lay(x, 0, 4);
        Checks.due("20 beside the box", x.where(0), Checks.NONE);
        Checks.lay(x, 0, -1);
        Checks.due("20 beside the box", x.where(0), Checks.NONE);
        Checks.lay(x, 0, 1L << 32);
        Checks.due("20 far from the box", x.where(0), Checks.NONE);
    }

    private static void judge() {
        ThinBodies x = Checks.told("letters 1;tie 1 bound 1");
        Checks.due("21 sheet 4", x.judge(4), Checks.BEYOND);
        Checks.due("21 sheet -1", x.judge(-1), Checks.BEYOND);
        Checks.due("21 missing", x.judge(2), Checks.MISSING);
        Checks.lay(x, 2, -1, 1, -2);
        Checks.due("21 so", x.judge(2), 0);
        Checks.lay(x, 2, 1, 1, -2);
        Checks.due("21 the first isn't so", x.judge(2), 1);
        Checks.lay(x, 2, -1, 1, -1, 5);
        Checks.due("21 the third isn't so", x.judge(2), 3);
        Checks.lay(x, 2, -1, 1);
        Checks.due("21 the third lacks", x.judge(2), 3);
        Checks.lay(x, 2, -1, 1, -2, 0);
        Checks.due("21 the fourth is too many", x.judge(2), 4);
        Checks.lay(x, 2);
        Checks.due("21 all lack", x.judge(2), 1);
        Checks.lay(x, 2, -1 + (1L << 32), 1, -2);
        Checks.due("21 all bits count", x.judge(2), 1);
    }
}
