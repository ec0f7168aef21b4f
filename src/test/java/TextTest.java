/** Promises 35 to 37: feed, wipe, text, with each fault that a text may have. */
public final class TextTest {
    public static void main(String[] args) {
        feed();
        wipe();
        goodTexts();
        faults();
        faultsOfNumbers();
        faultsOfFullness();
        nothingChanges();
        Checks.end();
    }

    private static void feed() {
        ThinBodies x = new ThinBodies();
        Checks.due("35 n 0", x.feed(1, 0), Checks.BEYOND);
        Checks.due("35 n 5", x.feed(1, 5), Checks.BEYOND);
        Checks.due("35 n -1", x.feed(1, -1), Checks.BEYOND);
        Checks.due("35 off ", x.feed(('o' << 24) | ('f' << 16) | ('f' << 8) | ' ', 4), 4);
        Checks.due("35 1", x.feed((('z' << 8)) | '1', 1), 5);
        Checks.due("35 -2", x.feed((('z' << 16)) | ('-' << 8) | '2', 2), 7);
        Checks.due("35 text", x.text(), 1);
        Checks.due("35 kind", x.of(0, 0), 4);
        Checks.due("35 number 0", x.of(0, 3), 1);
        Checks.due("35 number 1", x.of(0, 4), -2);
        for (int i = 1; i <= 39; i++) {
            Checks.due("35 three", x.feed(0x202020, 3), 3 * i);
        }
        Checks.due("35 121", x.feed(0, 4), Checks.FULL);
        Checks.due("35 beyond is asked ahead of full", x.feed(0, 5), Checks.BEYOND);
        Checks.due("35 120", x.feed(0x202020, 3), 120);
        Checks.due("35 121", x.feed(0, 1), Checks.FULL);
        Checks.due("35 count", x.count(3), 120);
        Checks.due("35 120 blanks end too early", x.text(), -121);
    }

    private static void wipe() {
        ThinBodies x = new ThinBodies();
        Checks.due("36 wipe", x.wipe(), 0);
        Checks.feed(x, "letters 4");
        Checks.due("36 wipe", x.wipe(), 9);
        Checks.due("36 count", x.count(3), 0);
        Checks.due("36 text", x.text(), -1);
        Checks.due("36 letters", x.count(0), 2);
    }

    private static void goodTexts() {
        ThinBodies x = new ThinBodies();
        Checks.due("37 items", Checks.read(x, "letters3;box 1-9 9;box2-4-4; row 1-2 3 ;tie0 0 0bound-999;  "
            + "band 007 8 9 within 99;comb 1 1 1 bound 9within 1"), 7);
        Checks.due("37 letters", x.count(0), 3);
        Checks.due("37 points", x.count(2), 4 * 19);
        Checks.due("37 rows", x.count(1), 4);
        int[][] due = {{0, 0, 1, 1, -2, 3, 0}, {1, -999, 1, 0, 0, 0, 0}, {2, 0, 99, 7, 8, 9, 0}, {3, 9, 1, 1, 1, 1, 0}};
        for (int r = 0; r < 4; r++) {
            for (int what = 0; what < 7; what++) {
                Checks.due("37 row " + r + " what " + what, x.of(r, what), due[r][what]);
            }
        }
        Checks.due("37 the tape is empty", x.count(3), 0);
        Checks.due("37 more", Checks.read(x, "letters 1;off - 9;least -0 bound 12 within 3"), 3);
        Checks.due("37 off", x.of(4, 0), 4);
        Checks.due("37 - 9", x.of(4, 3), -9);
        Checks.due("37 least", x.of(5, 0), 5);
        Checks.due("37 -0", x.of(5, 3), 0);
        Checks.due("37 bound", x.of(5, 1), 12);
        Checks.due("37 within", x.of(5, 2), 3);
        x.base(0, 0, 3);
        Checks.read(x, "letters 1");
        Checks.due("37 n didn't change", x.baseOf(0, 0), 3);
        Checks.read(x, "letters 2");
        Checks.due("37 n changed", x.baseOf(0, 0), 1);
        Checks.due("37 letter 1 comes with 0", x.boxOf(1, 0), 0);
        Checks.due("37 and 3", x.boxOf(1, 1), 3);
        Checks.due("37 no finding", x.status(-1), 0);
    }

    /** Each text is told with its fault marked: the byte at ^ (which goes) is the fault. */
    private static void dueFault(String marked) {
        int fault = marked.indexOf('^');
        String text = marked.substring(0, fault) + marked.substring(fault + 1);
        ThinBodies x = new ThinBodies();
        Checks.due("37 " + marked, Checks.read(x, text), -1 - fault);
        Checks.due("37 the tape is empty", x.count(3), 0);
        Checks.due("37 no finding", x.status(-1), 0);
    }

    private static void faults() {
        String[] texts = {"^", "  ^", "^;", "^-", "^7", "^bounds 1", "^boxbox", "^bound 3", "^within 3", "^Letters 2", "^\t",
            "^letter 2", "^letterss 2", "^rows 1 2", "^ro 1 2", "^rowz 1 2", "^zow 1 2", "^aoxa", "^aox 0 1 2", "^rowa 1 2", "row 1 2^`",
            "row 1 2^{", "row 1 2^/", "row 1 2^:",
            "letters^", "letters  ^", "letters ^-2", "letters ^;", "letters ^x", "letters 2 ^3", "letters 2 ^-", "letters 2;^",
            "letters 2;  ^", "letters 2;^;", "letters 2 ^letters 2", "letters 2 ^bound 2", "letters 2^.", "letters ^two",
            "box^", "box 1^", "box 1 2^", "box 1 -^", "box 1 -2 -^", "box ^-0 1 2", "box 0 -^-1 2", "box 0 1 2 ^3", "box 0 ^; 2",
            "box 0 1 ^a", "box 0 1 2 ^within 3",
            "row^", "row 1^", "row 1 -^", "row 1 ^;", "row 1 2 ^3", "row 1 2 ^-", "row 1 ^bound 2", "row 1 2 bound^",
            "row 1 2 bound -^", "row 1 2 bound 3 ^bound 4", "row 1 2 within^", "row 1 2 within ^-1", "row 1 2 within 1 ^bound 3",
            "row 1 2 within 1 ^within 3", "row 1 2 bound 3 ^4", "row 1 2 ^bounds",
            "row 1 2 ^boundwithin 2", "row 1 2 ^row 1 2", "row 1 2^,", "tie 1 2 bound ^;", "off 1 2 within ^;",
            "row 1 2;least5 1 ^2", "^\u00e9", "row 1 2^\u00ff"};
        for (String text : texts) {
            dueFault(text);
        }
    }

    private static void faultsOfNumbers() {
        String[] texts = {"letters ^0", "letters ^5", "letters ^1000", "letters ^99999999999999999999", "box ^2 0 1", "box 0 ^10 10",
            "box 0 -^10 1", "box 0 0 ^10", "box 0 0 -^1", "box 0 3 ^2", "box 0 -3 -^4", "box 0 -9 -^10", "row ^10 0", "row -^10 0",
            "row 0 ^10", "row 0 -^10", "row 0 0 bound ^1000", "row 0 0 bound -^1000", "row 0 0 bound - ^1000", "row 0 0 within ^0",
            "row 0 0 within ^100", "letters 1;box ^1 0 1", "letters 1;row 1 ^1", "letters 3;row 1 1^", "letters 3;row 1 1 ^bound 1",
            "row 0 0 bound ^4294967296", "letters ^4294967297"};
        for (String text : texts) {
            dueFault(text);
        }
        Checks.due("37 0002", Checks.read(new ThinBodies(), "letters 00000000000000002"), 1);
        Checks.due("37 bound 999", Checks.read(new ThinBodies(), "row 9 -9 bound 999 within 99;row 0 0 bound -999"), 2);
    }

    private static void faultsOfFullness() {
        dueFault("box 0 -9 9;box 1 -9 9;letters ^4");
        dueFault("letters 4;box 0 -9 9;box 1 -9 ^9");
        dueFault("letters 4;box 0 1 8;box 1 1 8;box 2 1 8;box 3 -8 ^0");
        dueFault("letters 4;box 0 1 8;box 1 1 8;box 2 1 8;box 3 -9 -^1");
        dueFault("row0 0;row0 0;row0 0;row0 0;row0 0;row0 0;row0 0;row0 0;^tie");
        ThinBodies x = Checks.told("tie 0 0;tie 0 0;tie 0 0;tie 0 0;tie 0 0;tie 0 0;tie 0 0");
        Checks.due("37 a 9th row by two", Checks.read(x, "off 0 0;band 1 2"), -9);
        Checks.due("37 rows", x.count(1), 7);
        Checks.due("37 an 8th row", Checks.read(x, "off 0 0"), 1);
        Checks.due("37 4096", Checks.read(x, "letters 4;box 0 0 7;box 1 0 7;box 2 0 7;box 3 0 7"), 5);
        Checks.due("37 4096 by letters", Checks.read(new ThinBodies(), "box 0 -7 8;box 1 -7 8;letters 4"), 3);
        Checks.due("37 a lesser side makes room", Checks.read(x, "box 0 0 0;box 1 -9 9"), 2);
    }

    private static void nothingChanges() {
        ThinBodies x = Checks.told("row 1 1 bound 3");
        x.base(0, 1, 2);
        Checks.due("37 fault", Checks.read(x, "letters 4;box 0 5 6;tie 1 1 1 1;"), -1 - 32);
        Checks.due("37 letters", x.count(0), 2);
        Checks.due("37 rows", x.count(1), 1);
        Checks.due("37 box", x.boxOf(0, 1), 3);
        Checks.due("37 lattice", x.baseOf(0, 1), 2);
        Checks.due("37 many", x.many(), 10);
        Checks.due("37 read", Checks.read(x, "box 0 1 1"), 1);
        Checks.due("37 many follows", x.many(), 3);
        Checks.due("37 tree follows", x.leaf(0, 1) > 4 ? 1 : 0, 0);
    }
}
