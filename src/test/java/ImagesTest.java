/** Promises 42 to 46: image, undo, tear, count, status. */
public final class ImagesTest {
    public static void main(String[] args) {
        imageAndUndo();
        whatIsNotKept();
        tear();
        count();
        status();
        Checks.end();
    }

    private static void imageAndUndo() {
        ThinBodies x = Checks.told("letters 3;box 1 -1 5;band 1 2 3 bound 4 within 5;row 1 0 0");
        x.change(0, 6, 9);
        x.base(2, 0, 3);
        int many = x.many();
        int cells = x.tree(0);
        Checks.due("43 none", x.undo(), Checks.NONE);
        Checks.due("42 image", x.image(), 1);
        for (int time = 0; time < 2; time++) {
            x.letters(1);
            x.box(0, 2, 2);
            x.drop();
            x.change(0, 0, 1);
            x.change(0, 6, 1);
            x.base(0, 0, 2);
            x.many();
            x.tree(0);
            Checks.due("43 undo", x.undo(), 2);
            Checks.due("43 letters", x.count(0), 3);
            Checks.due("43 box", x.boxOf(1, 0), -1);
            Checks.due("43 box", x.boxOf(0, 1), 3);
            Checks.due("43 kind", x.of(0, 0), 2);
            Checks.due("43 a number that doesn't count", x.of(0, 6), 9);
            Checks.due("43 row 1", x.of(1, 3), 1);
            Checks.due("43 lattice", x.baseOf(2, 0), 3);
            Checks.due("43 lattice", x.baseOf(0, 0), 1);
            Checks.due("43 many", x.many(), many);
            Checks.due("43 tree", x.tree(0), cells);
        }
        x.drop();
        x.image();
        x.drop();
        Checks.due("43 the latest", x.undo(), 1);
    }

    private static void whatIsNotKept() {
        ThinBodies x = new ThinBodies();
        x.sheet(0, 8, 1);
        Checks.feed(x, "ab");
        x.image();
        x.write(0, 0, 5);
        x.sheet(1, 8, 1);
        Checks.feed(x, "c");
        x.letters(0);
        x.undo();
        Checks.due("43 the sheet stays", x.write(0, 0, 6), 5);
        Checks.due("43 the new sheet stays", x.write(1, 0, 6), 0);
        Checks.due("43 the tape stays", x.count(3), 3);
        Checks.due("43 findings stay", x.status(-1), 1);
    }

    private static void tear() {
        ThinBodies x = new ThinBodies();
        Checks.due("44 nothing", x.tear(), 0);
        x.image();
        x.image();
        Checks.due("44 something", x.tear(), 1);
        Checks.due("44 nothing", x.tear(), 0);
        Checks.due("44 nothing is kept", x.undo(), Checks.NONE);
        x.image();
        Checks.due("44 something again", x.undo(), 0);
    }

    private static void count() {
        ThinBodies x = Checks.told("letters 4;box 1 -3 3;row 0 0 0 0;tie 0 0 0 0;off 0 0 0 0");
        x.feed(0, 2);
        Checks.due("45 letters", x.count(0), 4);
        Checks.due("45 rows", x.count(1), 3);
        Checks.due("45 points", x.count(2), 448);
        Checks.due("45 bytes", x.count(3), 2);
        Checks.due("45 what 4", x.count(4), Checks.BEYOND);
        Checks.due("45 what -1", x.count(-1), Checks.BEYOND);
    }

    private static void status() {
        ThinBodies x = new ThinBodies();
        Checks.due("46 none at first", x.status(-1), 0);
        x.letters(0);
        x.feed(0, 9);
        x.box(0, -9, 9);
        x.box(1, -9, 9);
        x.letters(4);
        x.row(0, 0, 1);
        x.as(0, 1);
        x.as(0, 2);
        x.as(0, 3);
        x.point(4000, 0);
        x.point(4000, 0);
        x.point(4000, 0);
        x.undo();
        for (int i = 0; i < 5; i++) {
            x.mix(0, 1, 3);
        }
        for (int i = 0; i < 6; i++) {
            x.holds(0);
        }
        for (int i = 0; i < 7; i++) {
            x.sheet(0, 8, -1);
        }
        int[] due = {2, 1, 3, 4, 4, 6, 7};
        for (int which = 0; which < 7; which++) {
            Checks.due("46 status(" + which + ")", x.status(which), due[which]);
        }
        Checks.due("46 all", x.status(-1), 27);
        Checks.due("46 status(7)", x.status(7), Checks.BEYOND);
        Checks.due("46 status(-2)", x.status(-2), Checks.BEYOND);
        Checks.due("46 counted from then on", x.status(0), 4);
        Checks.due("46 all", x.status(-1), 29);
        x.image();
        x.undo();
        x.text();
        Checks.due("46 undo takes none back, a fault is none", x.status(-1), 29);
    }
}
