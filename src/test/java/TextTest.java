/** Promises 35 to 37: feed, wipe, text, with each fault that a text may have. */
public final class TextTest {
    public static void main(String[] args) {
        feed();
        wipe();
        goodTexts();
        faults();
        faultsOfNumbers();
        faultsOfFullness();
        nothingChanges();
        feedEdges();
        tokens();
        moreFaults();
        numbersTaken();
        fullTapes();
        itemByItem();
        rowsOfTexts();
        Checks.end();
    }

    private static void feed() {
        ThinBodies x = new ThinBodies();
        Checks.due("35 n 0", x.feed(1, 0), Checks.BEYOND);
        Checks.due("35 n 5", x.feed(1, 5), Checks.BEYOND);
        Checks.due("35 n -1", x.feed(1, -1), Checks.BEYOND);
        Checks.due("35 off ", x.feed(('o' << 24) | ('f' << 16) | ('f' << 8) | ' ', 4), 4);
        Checks.due("35 1", x.feed((('z' << 8)) | '1', 1), 5);
        Checks.due("35 -2", x.feed((('z' << 16)) | ('-' << 8) | '2', 2), 7);
        Checks.due("35 text", x.text(), 1);
        Checks.due("35 kind", x.of(0, 0), 4);
        Checks.due("35 number 0", x.of(0, 3), 1);
        Checks.due("35 number 1", x.of(0, 4), -2);
        for (int i = 1; i <= 39; i++) {
            Checks.due("35 three", x.feed(0x202020, 3), 3 * i);
        }
        Checks.due("35 121", x.feed(0, 4), Checks.FULL);
        Checks.due("35 beyond is asked ahead of full", x.feed(0, 5), Checks.BEYOND);
        Checks.due("35 120", x.feed(0x202020, 3), 120);
        Checks.due("35 121", x.feed(0, 1), Checks.FULL);
        Checks.due("35 count", x.count(3), 120);
        Checks.due("35 120 blanks end too early", x.text(), -121);
    }

    private static void wipe() {
        ThinBodies x = new ThinBodies();
        Checks.due("36 wipe", x.wipe(), 0);
        Checks.feed(x, "letters 4");
        Checks.due("36 wipe", x.wipe(), 9);
        Checks.due("36 count", x.count(3), 0);
        Checks.due("36 text", x.text(), -1);
        Checks.due("36 letters", x.count(0), 2);
    }

    private static void goodTexts() {
        ThinBodies x = new ThinBodies();
        Checks.due("37 items", Checks.read(x, "letters3;box 1-9 9;box2-4-4; row 1-2 3 ;tie0 0 0bound-999;  "
            + "band 007 8 9 within 99;comb 1 1 1 bound 9within 1"), 7);
        Checks.due("37 letters", x.count(0), 3);
        Checks.due("37 points", x.count(2), 4 * 19);
        Checks.due("37 rows", x.count(1), 4);
        int[][] due = {{0, 0, 1, 1, -2, 3, 0}, {1, -999, 1, 0, 0, 0, 0}, {2, 0, 99, 7, 8, 9, 0}, {3, 9, 1, 1, 1, 1, 0}};
        for (int r = 0; r < 4; r++) {
            for (int what = 0; what < 7; what++) {
                Checks.due("37 row " + r + " what " + what, x.of(r, what), due[r][what]);
            }
        }
        Checks.due("37 the tape is empty", x.count(3), 0);
        Checks.due("37 more", Checks.read(x, "letters 1;off - 9;least -0 bound 12 within 3"), 3);
        Checks.due("37 off", x.of(4, 0), 4);
        Checks.due("37 - 9", x.of(4, 3), -9);
        Checks.due("37 least", x.of(5, 0), 5);
        Checks.due("37 -0", x.of(5, 3), 0);
        Checks.due("37 bound", x.of(5, 1), 12);
        Checks.due("37 within", x.of(5, 2), 3);
        x.base(0, 0, 3);
        Checks.read(x, "letters 1");
        Checks.due("37 n didn't change", x.baseOf(0, 0), 3);
        Checks.read(x, "letters 2");
        Checks.due("37 n changed", x.baseOf(0, 0), 1);
        Checks.due("37 letter 1 comes with 0", x.boxOf(1, 0), 0);
        Checks.due("37 and 3", x.boxOf(1, 1), 3);
        Checks.due("37 no finding", x.status(-1), 0);
    }

    /** Two letters and no rows, as in a new object; all else that a fault must leave differs from a new one's. */
    private static ThinBodies ready() {
        ThinBodies x = Checks.told("letters 3;off 1 2 3 bound 5 within 6");
        x.base(1, 0, 3);
        x.image();
        x.drop();
        x.letters(2);
        x.base(0, 1, -2);
        x.sheet(0, 8, 2);
        x.write(0, 1, 77);
        return x;
    }

    /** Each text is told with its fault marked: the byte at ^ (which goes) is the fault. */
    private static void dueFault(String marked) {
        int fault = marked.indexOf('^');
        String text = marked.substring(0, fault) + marked.substring(fault + 1);
        ThinBodies x = ready();
        Checks.due("37 " + marked, Checks.read(x, text), -1 - fault);
        Checks.due("37 the tape is empty", x.count(3), 0);
        Checks.due("37 no finding", x.status(-1), 0);
        if (!Dump.all(x).equals(Dump.all(ready()))) {
            Checks.fail("37 changed something: " + marked);
        }
    }

    private static void faults() {
        String[] texts = {"^", "  ^", "^;", "^-", "^7", "^bounds 1", "^boxbox", "^bound 3", "^within 3", "^Letters 2", "^\t",
            "^letter 2", "^letterss 2", "^rows 1 2", "^ro 1 2", "^rowz 1 2", "^zow 1 2", "^aoxa", "^aox 0 1 2", "^rowa 1 2", "row 1 2^`",
            "row 1 2^{", "row 1 2^/", "row 1 2^:",
            "letters^", "letters  ^", "letters ^-2", "letters ^;", "letters ^x", "letters 2 ^3", "letters 2 ^-", "letters 2;^",
            "letters 2;  ^", "letters 2;^;", "letters 2 ^letters 2", "letters 2 ^bound 2", "letters 2^.", "letters ^two",
            "box^", "box 1^", "box 1 2^", "box 1 -^", "box 1 -2 -^", "box ^-0 1 2", "box 0 -^-1 2", "box 0 1 2 ^3", "box 0 ^; 2",
            "box 0 1 ^a", "box 0 1 2 ^within 3",
            "row^", "row 1^", "row 1 -^", "row 1 ^;", "row 1 2 ^3", "row 1 2 ^-", "row 1 ^bound 2", "row 1 2 bound^",
            "row 1 2 bound -^", "row 1 2 bound 3 ^bound 4", "row 1 2 within^", "row 1 2 within ^-1", "row 1 2 within 1 ^bound 3",
            "row 1 2 within 1 ^within 3", "row 1 2 bound 3 ^4", "row 1 2 ^bounds",
            "row 1 2 ^boundwithin 2", "row 1 2 ^row 1 2", "row 1 2^,", "tie 1 2 bound ^;", "off 1 2 within ^;",
            "row 1 2;least5 1 ^2", "^\u00e9", "row 1 2^\u00ff"};
        for (String text : texts) {
            dueFault(text);
        }
    }

    private static void faultsOfNumbers() {
        String[] texts = {"letters ^0", "letters ^5", "letters ^1000", "letters ^99999999999999999999", "box ^2 0 1", "box 0 ^10 10",
            "box 0 -^10 1", "box 0 0 ^10", "box 0 0 -^1", "box 0 3 ^2", "box 0 -3 -^4", "box 0 -9 -^10", "row ^10 0", "row -^10 0",
            "row 0 ^10", "row 0 -^10", "row 0 0 bound ^1000", "row 0 0 bound -^1000", "row 0 0 bound - ^1000", "row 0 0 within ^0",
            "row 0 0 within ^100", "letters 1;box ^1 0 1", "letters 1;row 1 ^1", "letters 3;row 1 1^", "letters 3;row 1 1 ^bound 1",
            "row 0 0 bound ^4294967296", "letters ^4294967297"};
        for (String text : texts) {
            dueFault(text);
        }
        Checks.due("37 0002", Checks.read(new ThinBodies(), "letters 00000000000000002"), 1);
        Checks.due("37 bound 999", Checks.read(new ThinBodies(), "row 9 -9 bound 999 within 99;row 0 0 bound -999"), 2);
    }

    private static void faultsOfFullness() {
        dueFault("box 0 -9 9;box 1 -9 9;letters ^4");
        dueFault("letters 4;box 0 -9 9;box 1 -9 ^9");
        dueFault("letters 4;box 0 1 8;box 1 1 8;box 2 1 8;box 3 -8 ^0");
        dueFault("letters 4;box 0 1 8;box 1 1 8;box 2 1 8;box 3 -9 -^1");
        dueFault("row0 0;row0 0;row0 0;row0 0;row0 0;row0 0;row0 0;row0 0;^tie");
        ThinBodies x = Checks.told("tie 0 0;tie 0 0;tie 0 0;tie 0 0;tie 0 0;tie 0 0;tie 0 0");
        Checks.due("37 a 9th row by two", Checks.read(x, "off 0 0;band 1 2"), -9);
        Checks.due("37 rows", x.count(1), 7);
        Checks.due("37 an 8th row", Checks.read(x, "off 0 0"), 1);
        Checks.due("37 4096", Checks.read(x, "letters 4;box 0 0 7;box 1 0 7;box 2 0 7;box 3 0 7"), 5);
        Checks.due("37 4096 by letters", Checks.read(new ThinBodies(), "box 0 -7 8;box 1 -7 8;letters 4"), 3);
        Checks.due("37 a lesser side makes room", Checks.read(x, "box 0 0 0;box 1 -9 9"), 2);
    }

    private static void nothingChanges() {
        ThinBodies x = Checks.told("row 1 1 bound 3");
        x.base(0, 1, 2);
        Checks.due("37 fault", Checks.read(x, "letters 4;box 0 5 6;tie 1 1 1 1;"), -1 - 32);
        Checks.due("37 letters", x.count(0), 2);
        Checks.due("37 rows", x.count(1), 1);
        Checks.due("37 box", x.boxOf(0, 1), 3);
        Checks.due("37 lattice", x.baseOf(0, 1), 2);
        Checks.due("37 many", x.many(), 10);
        Checks.due("37 read", Checks.read(x, "box 0 1 1"), 1);
        Checks.due("37 many follows", x.many(), 3);
        Checks.due("37 tree follows", x.leaf(0, 1) > 4 ? 1 : 0, 0);
    }

    private static void feedEdges() {
        ThinBodies x = new ThinBodies();
        int due = 0;
        for (int n = 1; n <= 4; n++) {
            due += n;
            Checks.due("35 " + n + " bytes", x.feed(-1, n), due);
        }
        Checks.due("35 n 5", x.feed(-1, 5), Checks.BEYOND);
        Checks.due("35 n 0", x.feed(-1, 0), Checks.BEYOND);
        Checks.due("36 wipe", x.wipe(), 10);
        Checks.due("36 once more", x.wipe(), 0);
        // the highest of the lowest bytes first: "row 1 2" by 1, 2, 4 bytes, the bytes above them don't matter
        Checks.due("35 r", x.feed(0x7a7a7a00 | 'r', 1), 1);
        Checks.due("35 ow", x.feed(0x80000000 | 'o' << 8 | 'w', 2), 3);
        Checks.due("35 1 2", x.feed(' ' << 24 | '1' << 16 | ' ' << 8 | '2', 4), 7);
        Checks.due("37 a row", x.text(), 1);
        Checks.due("37 number 0", x.of(0, 3), 1);
        Checks.due("37 number 1", x.of(0, 4), 2);
        Checks.due("35 tie", x.feed('z' << 24 | 't' << 16 | 'i' << 8 | 'e', 3), 3);
        Checks.feed(x, "3 4");
        Checks.due("37 a tie", x.text(), 1);
        Checks.due("37 kind", x.of(1, 0), 1);
        for (int n = 1; n <= 4; n++) {
            ThinBodies y = new ThinBodies();
            Checks.feed(y, " ".repeat(120 - n));
            for (int more = n + 1; more <= 4; more++) {
                Checks.due("35 121 or more", y.feed(0x20202020, more), Checks.FULL);
                Checks.due("35 none of them came", y.count(3), 120 - n);
            }
            Checks.due("35 just 120", y.feed(0x20202020, n), 120);
            Checks.due("35 one more", y.feed(32, 1), Checks.FULL);
            Checks.due("36 wipe", y.wipe(), 120);
            Checks.due("35 room again", y.feed(32, 1), 1);
        }
    }

    private static void dueItems(String text, int items) {
        ThinBodies x = new ThinBodies();
        Checks.due("37 " + text, Checks.read(x, text), items);
        Checks.due("37 the tape is empty", x.count(3), 0);
        Checks.due("37 no finding", x.status(-1), 0);
    }

    /** Tokens are as long as can be; blanks may stand between them, not in them. */
    private static void tokens() {
        dueItems("row1 2", 1);
        dueItems("row 1-2", 1);
        dueItems("row-1-2", 1);
        dueItems("row - 1   -   2", 1);
        dueItems("   row 1 2   ", 1);
        dueItems("row1 2bound-5within9;box0-1-1;letters2", 3);
        dueItems("letters 2 ; letters 2", 2);
        String[] texts = {"^rowtie 1 2", "^ro w 1 2", "^let ters 2", "row 1 2 ^bou nd 3", "row 1 2 ^boundwithin 3", "row ^12", "row 1^",
            "row 1 2 bound 1 ^2", "row 1 2 bound -^-1", "row -^;", "row -^a", "row -^", "row - ^", "row - ^- 1",
            "^1row 1 2", "^-row 1 2", "letters 2^row 1 2", "letters2^letters2", "letters 2 ^,", "row ^+1 2",
            "letters 2^.5", "row 1 2^\n", "row^\t1 2", "^\u0000", "row 1 2 ^\u007f", "row 1 2 ^\u0080", "row 1 2 ^\u00a0", "^ROW 1 2",
            "^Row 1 2", "row 1 2 ^A", "row 1 2 ^Z", "row 1 2 ^@", "row 1 2 ^[", "row 1 2 ^`", "row 1 2 ^{", "row 1 2 ^/", "row 1 2 ^:",
            "row 1 2 ^a", "row 1 2 ^z", "row 1 2 ^0", "row 1 2 ^9", "row 1 2 ^_", "^zzz", "^aaa"};
        for (String text : texts) {
            dueFault(text);
        }
    }

    private static void moreFaults() {
        String[] texts = {"^", " ^", "^;row 1 2", "row 1 2;^", "row 1 2; ^", "row 1 2;^;row 1 2", "row 1 2 ^- ;",
            // ends too early, behind each token that may stand there
            "letters^", "box^", "box 0^", "box 0 -^", "box 0 -1^", "box 0 -1 -^", "row^", "row -^", "row 1^", "row 1 -^", "row 1 2 bound^",
            "row 1 2 bound -^", "row 1 2 within^", "row 1 2 bound 3 within^", "letters 3;tie 1 2^", "letters 2;letters^", "letters 2;  ^",
            // another word, or a sign, where each token should stand
            "letters ^letters", "letters ^row", "box ^box", "box ^;", "box 0 ^bound", "box 0 -^row", "box 0 1 ^;", "box 0 1 -^;", "row ^bound 1",
            "row ^within 1", "row ^;", "row 1 ^within 1", "row 1 2 ^letters 2", "row 1 2 bound ^within 2", "row 1 2 bound ^;", "row 1 2 within ^bound",
            "row 1 2 within ^;", "row 1 2 within 3 ^within 3", "row 1 2 bound 3 ^bound 3", "row 1 2 within 3 ^bound 3", "letters 2 ^within 3",
            "box 0 1 2 ^bound 3", "letters ^-1", "letters ^- 1", "box ^-1 0 1", "row 1 2 within ^-5", "row 1 2 within ^- 5",
            // numbers that aren't as told, with the - ahead of it: the place of the number itself
            "letters ^0", "letters ^5", "letters ^00", "letters ^0005", "letters 1;box ^1 0 0", "letters 3;box ^3 0 0", "letters 4;box ^4 0 0",
            "box 0 -^10 0", "box 0 -   ^10 0", "box 0 ^10 9", "box 0 0 ^10", "box 0 -9 -^10", "box 0 1 - ^1", "box 0 -1 -^2", "box 0 9 ^8",
            "box 0 -8 -^9", "box 0 0 -^1", "row ^10 1", "row -^10 1", "row 1 - ^10", "row 9 ^10", "letters 4;row 1 2 3 ^10", "row 1 2 bound ^1000",
            "row 1 2 bound -^1000", "row 1 2 bound -  ^1000", "row 1 2 within ^0", "row 1 2 within ^100", "row 1 2 within ^999", "row 1 2 within ^1000",
            "row 1 2 bound ^10000000000", "row 1 2 bound -^10000000000", "row 1 2 within ^4294967297", "letters ^4294967298", "box ^4294967296 0 1",
            "box 0 ^4294967296 1", "row ^18446744073709551617 1"};
        for (String text : texts) {
            dueFault(text);
        }
    }

    private static void numbersTaken() {
        ThinBodies x = Checks.told("letters 1;box 0 -9 -9");
        Checks.due("37 letters 1", x.count(0), 1);
        Checks.due("37 low -9", x.boxOf(0, 0), -9);
        Checks.due("37 high -9", x.boxOf(0, 1), -9);
        x = Checks.told("letters 4;box 3 9 9;box 0 -9 9");
        Checks.due("37 letters 4", x.count(0), 4);
        Checks.due("37 low 9", x.boxOf(3, 0), 9);
        Checks.due("37 high 9", x.boxOf(3, 1), 9);
        Checks.due("37 -9 to 9", x.count(2), 19 * 16);
        x = Checks.told("row -9 9 bound 999 within 99;tie 9 -9 bound -999 within 1;least -0 00 bound -0 within 099;off 0009 1 bound 0999");
        int[][] due = {{0, 999, 99, -9, 9}, {1, -999, 1, 9, -9}, {5, 0, 99, 0, 0}, {4, 999, 1, 9, 1}};
        for (int r = 0; r < 4; r++) {
            for (int what = 0; what < 5; what++) {
                Checks.due("37 row " + r + " what " + what, x.of(r, what), due[r][what]);
            }
        }
        x = Checks.told("box 00 00 000000000000000000000000003");
        Checks.due("37 zeros ahead", x.boxOf(0, 1), 3);
    }

    private static void fullTapes() {
        ThinBodies x = new ThinBodies();
        Checks.due("37 120 bytes", Checks.read(x, "row 1 2" + " ".repeat(113)), 1);
        Checks.due("37 the last token is the last byte", Checks.read(x, " ".repeat(111) + "letters 3"), 1);
        Checks.due("37 letters", x.count(0), 3);
        Checks.due("37 a fault in the last byte", Checks.read(x, " ".repeat(119) + "z"), -120);
        Checks.due("37 it ends too early behind 120", Checks.read(x, " ".repeat(117) + "row"), -121);
        Checks.due("37 a word of 120", Checks.read(x, "z".repeat(120)), -1);
        Checks.due("37 a number of 112", Checks.read(x, "letters " + "0".repeat(111) + "2"), 1);
        Checks.due("37 letters", x.count(0), 2);
        Checks.due("37 most items", Checks.read(x, "box0 1 1" + ";box1 2 2".repeat(12)), 13);
        Checks.due("37 box", x.boxOf(0, 1), 1);
        Checks.due("37 box", x.boxOf(1, 0), 2);
        Checks.due("37 nothing", x.text(), -1);
        Checks.due("37 no finding", x.status(-1), 0);
    }

    /** Each item stands on those ahead of it: letters, points, rows by then. */
    private static void itemByItem() {
        ThinBodies x = Checks.told("letters 3;box 2 1 1;letters 2;letters 3");
        Checks.due("37 it went and came", x.boxOf(2, 0), 0);
        Checks.due("37 it went and came", x.boxOf(2, 1), 3);
        x = Checks.told("box 0 1 1;box 0 2 2;letters 1;row 5;letters 3;row 1 2 3");
        Checks.due("37 the latter counts", x.boxOf(0, 0), 2);
        Checks.due("37 one letter by then", x.of(0, 4), 0);
        Checks.due("37 three letters by then", x.of(1, 5), 3);
        Checks.due("37 none for letter 3", x.of(1, 6), 0);
        dueFault("box ^2 0 1;letters 3");
        dueFault("letters 3;letters 2;box ^2 0 1");
        dueFault("row 1 ^;letters 1");
        dueFault("letters 3;row 1 2 3;letters 2;row 1 2 ^3");
        dueFault("letters 3;box 0 -9 9;box 1 -9 8;box 2 -9 ^2");
        dueFault("letters 3;box 0 -9 9;box 1 -9 8;box 2 0 2;letters ^4");
        dueFault("letters 3;box 0 -9 9;box 1 -9 8;box 2 -9 1;box 2 0 1;letters 4;box 3 0 ^9");
        dueFault("box 0 -9 9;box 1 -9 4;letters ^4;box 0 0 0");
        dueItems("letters 3;box 0 -9 9;box 1 -9 8;box 2 -9 1", 4);
        dueItems("letters 3;box 0 -9 9;box 1 -9 8;box 2 0 1;letters 4", 5);
        dueItems("letters 4;box 0 0 7;box 1 0 7;box 2 0 7;box 3 0 7;box 0 0 0;box 1 -9 9", 7);
        dueItems("letters 3;box 0 0 7;box 1 0 7;box 2 -8 7;letters 4", 5);
        ThinBodies full = Checks.told("letters 4;box 0 0 7;box 1 0 7;box 2 0 7;box 3 0 7");
        Checks.due("37 the box that is there counts", Checks.read(full, "box 0 1 9"), -9);
        Checks.due("37 as many letters as there are", Checks.read(full, "letters 4"), 1);
        Checks.due("37 as many points", Checks.read(full, "box 0 -7 0"), 1);
        Checks.due("45 4096", full.count(2), 4096);
    }

    private static void rowsOfTexts() {
        String[] words = {"row", "tie", "band", "comb", "off", "least"};
        for (int kind = 0; kind < 6; kind++) {
            ThinBodies x = new ThinBodies();
            for (int r = 0; r < 7; r++) {
                x.row(0, 0, 1);
            }
            Checks.due("37 an 8th", Checks.read(x, words[kind] + " 1 2"), 1);
            int[] due = {kind, 0, 1, 1, 2, 0, 0};
            for (int what = 0; what < 7; what++) {
                Checks.due("37 " + words[kind] + ": what " + what, x.of(7, what), due[what]);
            }
            Checks.due("37 a 9th", Checks.read(x, "letters 2; " + words[kind] + " 1 2"), -12);
            Checks.due("37 a 9th, whatever is behind its word", Checks.read(x, words[kind] + "."), -1);
            Checks.due("37 rows", x.count(1), 8);
            Checks.due("37 other items are fine", Checks.read(x, "letters 2;box 0 1 1"), 2);
            x.drop();
            Checks.due("37 room again", Checks.read(x, words[kind] + " 1 2 bound -3 within 4"), 1);
            Checks.due("37 bound", x.of(7, 1), -3);
            Checks.due("37 within", x.of(7, 2), 4);
        }
        ThinBodies x = Checks.told("letters 4;tie 1 2 3 4 within 9;off -1 -2 -3 -4 bound 8");
        Checks.due("37 bound 0 without", x.of(0, 1), 0);
        Checks.due("37 within 1 without", x.of(1, 2), 1);
        Checks.due("37 the fourth number", x.of(0, 6), 4);
        Checks.due("37 the fourth number", x.of(1, 6), -4);
    }
}
