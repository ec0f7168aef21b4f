/** Promises 42 to 46: image, undo, tear, count, status. */
public final class ImagesTest {
    public static void main(String[] args) {
        imageAndUndo();
        whatIsNotKept();
        tear();
        count();
        status();
        undoOfAll();
        imagesAndTexts();
        tearEdges();
        countEdges();
        statusEdges();
        Checks.end();
    }

    private static void imageAndUndo() {
        ThinBodies x = Checks.told("letters 3;box 1 -1 5;band 1 2 3 bound 4 within 5;row 1 0 0");
        x.change(0, 6, 9);
        x.base(2, 0, 3);
        int many = x.many();
        int cells = x.tree(0);
        Checks.due("43 none", x.undo(), Checks.NONE);
        Checks.due("42 image", x.image(), 1);
        for (int time = 0; time < 2; time++) {
            x.letters(1);
            x.box(0, 2, 2);
            x.drop();
            x.change(0, 0, 1);
            x.change(0, 6, 1);
            x.base(0, 0, 2);
            x.many();
            x.tree(0);
            Checks.due("43 undo", x.undo(), 2);
            Checks.due("43 letters", x.count(0), 3);
            Checks.due("43 box", x.boxOf(1, 0), -1);
            Checks.due("43 box", x.boxOf(0, 1), 3);
            Checks.due("43 kind", x.of(0, 0), 2);
            Checks.due("43 a number that doesn't count", x.of(0, 6), 9);
            Checks.due("43 row 1", x.of(1, 3), 1);
            Checks.due("43 lattice", x.baseOf(2, 0), 3);
            Checks.due("43 lattice", x.baseOf(0, 0), 1);
            Checks.due("43 many", x.many(), many);
            Checks.due("43 tree", x.tree(0), cells);
        }
        x.drop();
        x.image();
        x.drop();
        Checks.due("43 the latest", x.undo(), 1);
    }

    private static void whatIsNotKept() {
        ThinBodies x = new ThinBodies();
        x.sheet(0, 8, 1);
        Checks.feed(x, "ab");
        x.image();
        x.write(0, 0, 5);
        x.sheet(1, 8, 1);
        Checks.feed(x, "c");
        x.letters(0);
        x.undo();
        Checks.due("43 the sheet stays", x.write(0, 0, 6), 5);
        Checks.due("43 the new sheet stays", x.write(1, 0, 6), 0);
        Checks.due("43 the tape stays", x.count(3), 3);
        Checks.due("43 findings stay", x.status(-1), 1);
    }

    private static void tear() {
        ThinBodies x = new ThinBodies();
        Checks.due("44 nothing", x.tear(), 0);
        x.image();
        x.image();
        Checks.due("44 something", x.tear(), 1);
        Checks.due("44 nothing", x.tear(), 0);
        Checks.due("44 nothing is kept", x.undo(), Checks.NONE);
        x.image();
        Checks.due("44 something again", x.undo(), 0);
    }

    private static void count() {
        ThinBodies x = Checks.told("letters 4;box 1 -3 3;row 0 0 0 0;tie 0 0 0 0;off 0 0 0 0");
        x.feed(0, 2);
        Checks.due("45 letters", x.count(0), 4);
        Checks.due("45 rows", x.count(1), 3);
        Checks.due("45 points", x.count(2), 448);
        Checks.due("45 bytes", x.count(3), 2);
        Checks.due("45 what 4", x.count(4), Checks.BEYOND);
        Checks.due("45 what -1", x.count(-1), Checks.BEYOND);
    }

    private static void status() {
        ThinBodies x = new ThinBodies();
        Checks.due("46 none at first", x.status(-1), 0);
        x.letters(0);
        x.feed(0, 9);
        x.box(0, -9, 9);
        x.box(1, -9, 9);
        x.letters(4);
        x.row(0, 0, 1);
        x.as(0, 1);
        x.as(0, 2);
        x.as(0, 3);
        x.point(4000, 0);
        x.point(4000, 0);
        x.point(4000, 0);
        x.undo();
        for (int i = 0; i < 5; i++) {
            x.mix(0, 1, 3);
        }
        for (int i = 0; i < 6; i++) {
            x.holds(0);
        }
        for (int i = 0; i < 7; i++) {
            x.sheet(0, 8, -1);
        }
        int[] due = {2, 1, 3, 4, 4, 6, 7};
        for (int which = 0; which < 7; which++) {
            Checks.due("46 status(" + which + ")", x.status(which), due[which]);
        }
        Checks.due("46 all", x.status(-1), 27);
        Checks.due("46 status(7)", x.status(7), Checks.BEYOND);
        Checks.due("46 status(-2)", x.status(-2), Checks.BEYOND);
        Checks.due("46 counted from then on", x.status(0), 4);
        Checks.due("46 all", x.status(-1), 29);
        x.image();
        x.undo();
        x.text();
        Checks.due("46 undo takes none back, a fault is none", x.status(-1), 29);
    }

    /** Each part of a body comes back, from one that is full to a new one's, and the other way round. */
    private static void undoOfAll() {
        ThinBodies x = new ThinBodies();
        x.image();
        fill(x);
        Checks.due("43 no rows", x.undo(), 0);
        Checks.due("43 letters", x.count(0), 2);
        Checks.due("43 points", x.count(2), 16);
        Checks.due("43 many", x.many(), 16);
        Checks.due("43 lattice", x.det(), 1);
        fill(x);
        x.image();
        x.letters(1);
        x.box(0, 5, 5);
        for (int r = 7; r >= 0; r--) {
            for (int what = 3; what < 7; what++) {
                x.change(r, what, 0);
            }
            x.drop();
        }
        x.row(0, -1, 1);
        x.base(0, 0, -1);
        Checks.due("43 eight rows", x.undo(), 8);
        Checks.due("43 letters", x.count(0), 4);
        for (int i = 0; i < 4; i++) {
            Checks.due("43 low", x.boxOf(i, 0), -i);
            Checks.due("43 high", x.boxOf(i, 1), i);
            for (int v = 0; v < 4; v++) {
                Checks.due("43 lattice", x.baseOf(v, i), v - i);
            }
        }
        for (int r = 0; r < 8; r++) {
            Checks.due("43 kind", x.of(r, 0), r % 6);
            Checks.due("43 bound", x.of(r, 1), 100 * r);
            Checks.due("43 within", x.of(r, 2), 11 + r);
            for (int what = 3; what < 7; what++) {
                Checks.due("43 number", x.of(r, what), r - what);
            }
        }
        Checks.due("43 it stays", x.undo(), 8);
        x.drop();
        Checks.due("43 and again", x.undo(), 8);
        Checks.due("44 it was kept all the time", x.tear(), 1);
        Checks.due("44 what came back stays", x.count(1), 8);
    }

    private static void fill(ThinBodies x) {
        x.letters(4);
        for (int i = 0; i < 4; i++) {
            x.box(i, -i, i);
            for (int v = 0; v < 4; v++) {
                x.base(v, i, v - i);
            }
        }
        for (int r = 0; r < 8; r++) {
            x.row(r % 6, 100 * r, 11 + r);
            for (int what = 3; what < 7; what++) {
                x.change(r, what, r - what);
            }
        }
    }

    /** What is kept is no part of what a text changes, nor of what it leaves as it was. */
    private static void imagesAndTexts() {
        ThinBodies x = Checks.told("row 1 1 bound 2");
        x.image();
        Checks.due("37 a text", Checks.read(x, "letters 3;tie 1 1 1"), 2);
        Checks.due("37 a fault", Checks.read(x, "letters 1;tie"), -14);
        Checks.due("37 letters", x.count(0), 3);
        Checks.feed(x, "letters 4");
        Checks.due("43 undo", x.undo(), 1);
        Checks.due("43 letters", x.count(0), 2);
        Checks.due("43 many", x.many(), 6);
        Checks.due("37 the tape was not kept, so it is still there", x.text(), 1);
        Checks.due("37 letters", x.count(0), 4);
        x.image();
        Checks.due("43 the latest", x.undo(), 1);
        Checks.due("43 the latest", x.count(0), 4);
    }

    private static void tearEdges() {
        ThinBodies x = new ThinBodies();
        Checks.due("44 nothing at first", x.tear(), 0);
        Checks.due("42 image", x.image(), 1);
        Checks.due("42 image again", x.image(), 1);
        Checks.due("43 undo", x.undo(), 0);
        Checks.due("44 something, though it came back", x.tear(), 1);
        Checks.due("43 nothing", x.undo(), Checks.NONE);
        Checks.due("44 nothing", x.tear(), 0);
        Checks.due("46 only undo was refused", x.status(-1), 1);
        Checks.due("46 none", x.status(3), 1);
        x.row(0, 5, 1);
        x.image();
        x.tear();
        x.drop();
        Checks.due("43 what was torn doesn't come back", x.undo(), Checks.NONE);
        Checks.due("45 rows", x.count(1), 0);
    }

    private static void countEdges() {
        ThinBodies x = new ThinBodies();
        int[] first = {2, 0, 16, 0};
        for (int what = 0; what < 4; what++) {
            Checks.due("45 at first", x.count(what), first[what]);
        }
        x.letters(1);
        x.box(0, 0, 0);
        Checks.due("45 one letter", x.count(0), 1);
        Checks.due("45 one point", x.count(2), 1);
        x.row(0, -1, 1);
        Checks.due("45 points of the box, in or not", x.count(2), 1);
        Checks.due("45 one row", x.count(1), 1);
        x.letters(4);
        for (int i = 0; i < 4; i++) {
            x.box(i, 0, 7);
        }
        for (int r = 1; r < 8; r++) {
            x.row(0, 0, 1);
        }
        Checks.feed(x, "z".repeat(120));
        int[] full = {4, 8, 4096, 120};
        for (int what = 0; what < 4; what++) {
            Checks.due("45 full", x.count(what), full[what]);
        }
        x.feed('z', 1);
        x.row(0, 0, 1);
        x.box(0, 0, 8);
        for (int what = 0; what < 4; what++) {
            Checks.due("45 still full", x.count(what), full[what]);
        }
        Checks.due("46 full", x.status(1), 3);
    }

    private static void statusEdges() {
        ThinBodies x = new ThinBodies();
        for (int which = -1; which < 7; which++) {
            Checks.due("46 none at first", x.status(which), 0);
        }
        Checks.due("46 which 7", x.status(7), Checks.BEYOND);
        Checks.due("46 counted from then on", x.status(-1), 1);
        Checks.due("46 which -2", x.status(-2), Checks.BEYOND);
        Checks.due("46 counted from then on", x.status(0), 2);
        for (int which = 1; which < 7; which++) {
            Checks.due("46 no other", x.status(which), 0);
        }
        Checks.read(x, "no text");
        x.sheet(0, 64, 1);
        x.write(0, 0, -1000000004L);
        Checks.due("39 what it was", x.write(0, 0, 0), -1000000004L);
        Checks.due("46 a fault is no finding, nor is what a number was", x.status(-1), 2);
        for (int i = 0; i < 460; i++) {
            x.drop();
        }
        Checks.due("46 many", x.status(3), 460);
        Checks.due("46 all", x.status(-1), 462);
    }
}
