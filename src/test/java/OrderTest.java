/** Terms: each act tells its findings in the order of its words. Each call here has several to tell. */
public final class OrderTest {
    private static final String NONE_IN = "tie 0 0 bound 1";

    public static void main(String[] args) {
        lettersAndRows();
        points();
        tree();
        whatIsBest();
        lattice();
        lies();
        textsAndSheets();
        copy();
        Checks.end();
    }

    private static void lettersAndRows() {
        ThinBodies x = Checks.told("letters 4;box 0 0 7;box 1 0 7;box 2 0 7;box 3 0 7");
        Checks.due("3 letter 4, too many points", x.box(4, -9, 9), Checks.BEYOND);
        Checks.due("3 letter -1, too many points", x.box(-1, -9, 9), Checks.BEYOND);
        Checks.due("3 low -10, too many points", x.box(3, -10, 9), Checks.BEYOND);
        Checks.due("3 high 10, too many points", x.box(3, -9, 10), Checks.BEYOND);
        Checks.due("3 too many points", x.box(3, -9, 9), Checks.FULL);
        for (int r = 0; r < 8; r++) {
            x.row(0, 0, 1);
        }
        Checks.due("5 kind 6 of a 9th", x.row(6, 0, 1), Checks.BEYOND);
        Checks.due("5 bound 1000 of a 9th", x.row(0, 1000, 1), Checks.BEYOND);
        Checks.due("5 within 0 of a 9th", x.row(0, 0, 0), Checks.BEYOND);
        Checks.due("5 a 9th", x.row(0, 0, 1), Checks.FULL);
        Checks.due("8 no such row, nor kind", x.as(8, 6), Checks.BEYOND);
        Checks.due("8 no such kind, nor is it", x.as(0, 6), Checks.BEYOND);
        Checks.due("8 no such row of that kind", x.as(8, 1), Checks.BEYOND);
        Checks.due("8 it isn't", x.as(0, 1), Checks.KIND);
    }

    private static void points() {
        ThinBodies x = Checks.told(NONE_IN);
        Checks.due("11 letter 2, none in", x.point(0, 2), Checks.BEYOND);
        Checks.due("11 letter -1, none in", x.point(0, -1), Checks.BEYOND);
        Checks.due("11 none in", x.point(0, 1), Checks.NONE);
        Checks.due("12 sheet 4", x.holds(4), Checks.BEYOND);
        Checks.due("12 missing, so of no size", x.holds(0), Checks.MISSING);
        Checks.lay(x, 0, 1000);
        Checks.due("12 too few, one too great", x.holds(0), Checks.SIZE);
        Checks.lay(x, 0, 1000, 0);
        Checks.due("12 one too great", x.holds(0), Checks.STATE);
        Checks.due("13 direction 25, none in", x.best(25, 0), Checks.BEYOND);
        Checks.due("13 what 3, none in", x.best(0, 3), Checks.BEYOND);
        Checks.due("13 none in", x.best(24, 2), Checks.NONE);
        Checks.due("14 what 2, none in", x.thin(2), Checks.BEYOND);
        Checks.due("14 none in", x.thin(1), Checks.NONE);
        Checks.due("15 letter 2, none in", x.mean(2, 0), Checks.BEYOND);
        Checks.due("15 part 2, none in", x.mean(0, 2), Checks.BEYOND);
        Checks.due("15 none in", x.mean(1, 1), Checks.NONE);
    }

    private static void tree() {
        ThinBodies x = new ThinBodies();
        Checks.due("18 what 3 of leaf 1", x.leaf(1, 3), Checks.BEYOND);
        Checks.due("18 leaf 1", x.leaf(1, 2), Checks.NONE);
        Checks.due("19 letter 2 of leaf 1", x.side(1, 2, 0), Checks.BEYOND);
        Checks.due("19 what 2 of leaf 1", x.side(1, 0, 2), Checks.BEYOND);
        Checks.due("19 leaf 1", x.side(1, 1, 1), Checks.NONE);
        Checks.due("20 sheet 4", x.where(4), Checks.BEYOND);
        Checks.due("20 missing, so of no size", x.where(0), Checks.MISSING);
        Checks.lay(x, 0, 9);
        Checks.due("20 too few, not of the box", x.where(0), Checks.SIZE);
        Checks.lay(x, 0, 9, 0);
        Checks.due("20 not of the box", x.where(0), Checks.NONE);
        Checks.lay(x, 0, 0, 5000);
        Checks.due("20 a great number is not of the box, either", x.where(0), Checks.NONE);
    }

    private static void whatIsBest() {
        ThinBodies x = Checks.told(NONE_IN + ";row 1 1");
        Checks.due("25 row 2, none in", x.boundFor(2), Checks.BEYOND);
        Checks.due("25 none in", x.boundFor(1), Checks.NONE);
    }

    private static void lattice() {
        ThinBodies x = new ThinBodies();
        x.base(0, 0, 4);
        x.base(1, 0, 4);
        Checks.due("28 k 4, 20 would be too much", x.mix(0, 1, 4), Checks.BEYOND);
        Checks.due("28 the same, 8 would be too much", x.mix(0, 0, 1), Checks.BEYOND);
        Checks.due("28 8 would be too much", x.mix(0, 1, 1), Checks.STATE);
        x.base(0, 0, 0);
        Checks.due("31 vector 2, no form", x.form(2, 0), Checks.BEYOND);
        Checks.due("31 letter 2, no form", x.form(0, 2), Checks.BEYOND);
        Checks.due("31 no form", x.form(1, 1), Checks.NONE);
        Checks.due("32 letter 2, determinant 0", x.shortest(2), Checks.BEYOND);
        Checks.due("32 letter -2, determinant 0", x.shortest(-2), Checks.BEYOND);
        Checks.due("32 determinant 0", x.shortest(1), Checks.NONE);
    }

    private static void lies() {
        ThinBodies x = new ThinBodies();
        x.base(0, 0, 0);
        Checks.due("34 sheet 4, determinant 0", x.lies(4), Checks.BEYOND);
        Checks.due("34 missing, determinant 0", x.lies(0), Checks.MISSING);
        Checks.lay(x, 0, 1000);
        Checks.due("34 too few, one too great, determinant 0", x.lies(0), Checks.SIZE);
        Checks.lay(x, 0, 1000, 0);
        Checks.due("34 one too great, determinant 0", x.lies(0), Checks.STATE);
        Checks.lay(x, 0, 999, 0);
        Checks.due("34 determinant 0", x.lies(0), Checks.NONE);
    }

    private static void textsAndSheets() {
        ThinBodies x = new ThinBodies();
        Checks.feed(x, " ".repeat(120));
        Checks.due("35 n 5, the tape is full", x.feed(0, 5), Checks.BEYOND);
        Checks.due("35 n 0, the tape is full", x.feed(0, 0), Checks.BEYOND);
        Checks.due("35 the tape is full", x.feed(0, 1), Checks.FULL);
        Checks.due("38 sheet 4, size -1", x.sheet(4, 8, -1), Checks.BEYOND);
        Checks.due("38 sheet 4, bits 0", x.sheet(4, 0, -1), Checks.BEYOND);
        Checks.due("38 bits 1, size -1", x.sheet(0, 1, -1), Checks.BEYOND);
        Checks.due("38 size -1", x.sheet(0, 8, -1), Checks.SIZE);
        Checks.due("39 sheet 4, number -1", x.write(4, -1, 0), Checks.BEYOND);
        Checks.due("39 missing, number -1", x.write(0, -1, 0), Checks.MISSING);
        Checks.due("41 sheet 4, no point", x.lays(4, 16), Checks.BEYOND);
        Checks.due("41 missing, no point", x.lays(0, 16), Checks.MISSING);
        x.sheet(0, 8, 0);
        Checks.due("39 number 0 of none", x.write(0, 0, 0), Checks.BEYOND);
        Checks.due("41 no point, no number either", x.lays(0, 16), Checks.NONE);
        Checks.due("46 how many are beyond", x.status(0), 8);
    }

    private static void copy() {
        ThinBodies x = new ThinBodies();
        x.sheet(0, 8, 2);
        x.sheet(1, 16, 2);
        x.sheet(2, 8, 2);
        Checks.due("40 sheet 4 to one that is missing", x.copy(4, 0, 3, 0, 1), Checks.BEYOND);
        Checks.due("40 a missing one to sheet 4", x.copy(3, 0, 4, 0, 1), Checks.BEYOND);
        Checks.due("40 a missing one of other bits", x.copy(3, 0, 1, 0, 1), Checks.MISSING);
        Checks.due("40 a missing one, too many", x.copy(0, 0, 3, 0, 99), Checks.MISSING);
        Checks.due("40 both are missing", x.copy(3, 0, 3, 0, 0), Checks.MISSING);
        Checks.due("40 other bits, too many", x.copy(0, 0, 1, 0, 99), Checks.KIND);
        Checks.due("40 other bits, n -1", x.copy(1, 0, 2, 0, -1), Checks.KIND);
        Checks.due("40 too many", x.copy(0, 0, 2, 0, 3), Checks.BEYOND);
    }
}
