/** Promises 38 to 41: sheet, write, copy, lays. */
public final class SheetsTest {
    public static void main(String[] args) {
        sheet();
        write();
        copy();
        lays();
        sheetEdges();
        writeEdges();
        copyEdges();
        laysEdges();
        Checks.end();
    }

    private static void sheet() {
        ThinBodies x = new ThinBodies();
        for (int bits : new int[] {8, 16, 64}) {
            Checks.due("38 sheet", x.sheet(3, bits, 40), 40);
            Checks.due("38 0 numbers", x.sheet(3, bits, 0), 0);
            Checks.due("38 it isn't missing", x.write(3, 0, 1), Checks.BEYOND);
        }
        Checks.due("38 sheet 4", x.sheet(4, 8, 1), Checks.BEYOND);
        Checks.due("38 sheet -1", x.sheet(-1, 8, 1), Checks.BEYOND);
        Checks.due("38 bits 32", x.sheet(0, 32, 1), Checks.BEYOND);
        Checks.due("38 bits -8", x.sheet(0, -8, 1), Checks.BEYOND);
        Checks.due("38 bits ahead of size", x.sheet(0, 1, -1), Checks.BEYOND);
        Checks.due("38 size", x.sheet(0, 8, -1), Checks.SIZE);
        Checks.due("38 41", x.sheet(0, 8, 41), Checks.BEYOND);
        Checks.due("38 still missing", x.write(0, 0, 1), Checks.MISSING);
        x.sheet(0, 8, 3);
        x.write(0, 1, 5);
        Checks.due("38 a finding changes nothing", x.sheet(0, 8, 41), Checks.BEYOND);
        Checks.due("38 5 stays", x.write(0, 1, 6), 5);
        Checks.due("38 all 0", x.sheet(0, 8, 3), 3);
        Checks.due("38 all 0", x.write(0, 1, 6), 0);
        Checks.due("38 missing, n -1", x.sheet(0, 0, -1), 0);
        Checks.due("38 missing, n 41", x.sheet(0, 0, 41), 0);
        Checks.due("38 missing", x.write(0, 0, 1), Checks.MISSING);
    }

    private static void write() {
        ThinBodies x = new ThinBodies();
        Checks.due("39 sheet 4", x.write(4, 0, 0), Checks.BEYOND);
        Checks.due("39 sheet -1", x.write(-1, 0, 0), Checks.BEYOND);
        Checks.due("39 missing is asked ahead of beyond", x.write(0, -1, 0), Checks.MISSING);
        long[] written = {127, 128, 255, 256, -129, 32767, 32768, 65535, 65536, Long.MAX_VALUE, Long.MIN_VALUE, -1000000001L};
        long[] of8 = {127, -128, -1, 0, 127, -1, 0, -1, 0, -1, 0, -1};
        long[] of16 = {127, 128, 255, 256, -129, 32767, -32768, -1, 0, -1, 0, 13823};
        for (int i = 0; i < written.length; i++) {
            x.sheet(0, 8, 2);
            x.sheet(1, 16, 2);
            x.sheet(2, 64, 2);
            x.write(0, 1, written[i]);
            x.write(1, 1, written[i]);
            x.write(2, 1, written[i]);
            Checks.due("39 8 bits of " + written[i], x.write(0, 1, 0), of8[i]);
            Checks.due("39 16 bits of " + written[i], x.write(1, 1, 0), of16[i]);
            Checks.due("39 64 bits of " + written[i], x.write(2, 1, 0), written[i]);
            Checks.due("39 number 0 stays", x.write(2, 0, 0), 0);
        }
        Checks.due("39 no finding", x.status(-1), 3);
        Checks.due("39 number 2", x.write(0, 2, 0), Checks.BEYOND);
        Checks.due("39 number -1", x.write(0, -1, 0), Checks.BEYOND);
    }

    private static void copy() {
        ThinBodies x = new ThinBodies();
        Checks.lay(x, 0, 1, 2, 3, 4, 5);
        x.sheet(1, 64, 3);
        x.sheet(2, 16, 5);
        Checks.due("40 sheet 4", x.copy(4, 0, 0, 0, 1), Checks.BEYOND);
        Checks.due("40 to sheet 4", x.copy(3, 0, 4, 0, 1), Checks.BEYOND);
        Checks.due("40 to sheet -1", x.copy(0, 0, -1, 0, 1), Checks.BEYOND);
        Checks.due("40 sheet -1", x.copy(-1, 0, 0, 0, 1), Checks.BEYOND);
        Checks.due("40 missing", x.copy(3, 0, 0, 0, 1), Checks.MISSING);
        Checks.due("40 to missing", x.copy(0, 9, 3, 0, 1), Checks.MISSING);
        Checks.due("40 kind is asked ahead of beyond", x.copy(0, 9, 2, 0, 1), Checks.KIND);
        Checks.due("40 copy", x.copy(0, 1, 1, 0, 3), 3);
        for (int i = 0; i < 3; i++) {
            Checks.due("40 came", x.write(1, i, 0), 2 + i);
        }
        Checks.due("40 four to three", x.copy(0, 0, 1, 0, 4), Checks.BEYOND);
        Checks.due("40 from 3 on three", x.copy(0, 3, 1, 0, 3), Checks.BEYOND);
        Checks.due("40 from -1", x.copy(0, -1, 1, 0, 1), Checks.BEYOND);
        Checks.due("40 to -1", x.copy(0, 0, 1, -1, 1), Checks.BEYOND);
        Checks.due("40 n -1", x.copy(0, 1, 1, 1, -1), Checks.BEYOND);
        Checks.due("40 very many", x.copy(0, 1, 1, 1, Integer.MAX_VALUE), Checks.BEYOND);
        Checks.due("40 from very far", x.copy(0, Integer.MAX_VALUE, 1, 1, Integer.MAX_VALUE), Checks.BEYOND);
        Checks.due("40 none", x.copy(0, 5, 1, 3, 0), 0);
        Checks.due("40 none from beyond", x.copy(0, 6, 1, 3, 0), Checks.BEYOND);
        Checks.due("40 onto itself", x.copy(0, 0, 0, 1, 4), 4);
        int[] due = {1, 1, 2, 3, 4};
        for (int i = 0; i < 5; i++) {
            Checks.due("40 as they were", x.write(0, i, i), due[i]);
        }
        Checks.due("40 and back", x.copy(0, 2, 0, 0, 3), 3);
        int[] back = {2, 3, 4, 3, 4};
        for (int i = 0; i < 5; i++) {
            Checks.due("40 as they were", x.write(0, i, 0), back[i]);
        }
    }

    private static void lays() {
        ThinBodies x = Checks.told("letters 3;box 0 -9 -8;box 1 1 2;box 2 4 5");
        Checks.due("41 sheet 4", x.lays(4, 0), Checks.BEYOND);
        Checks.due("41 sheet -1", x.lays(-1, 0), Checks.BEYOND);
        Checks.due("41 missing is asked ahead of none", x.lays(0, 8), Checks.MISSING);
        Checks.lay(x, 0, 7, 7, 7, 7);
        Checks.due("41 none", x.lays(0, 8), Checks.NONE);
        Checks.due("41 none", x.lays(0, -1), Checks.NONE);
        Checks.due("41 three", x.lays(0, 5), 3);
        int[] due = {-8, 1, 5, 7};
        for (int i = 0; i < 4; i++) {
            Checks.due("41 laid", x.write(0, i, 0), due[i]);
        }
        x.sheet(1, 8, 2);
        Checks.due("41 two", x.lays(1, 2), 2);
        Checks.due("41 laid", x.write(1, 0, 0), -9);
        Checks.due("41 laid", x.write(1, 1, 0), 2);
        x.sheet(1, 16, 0);
        Checks.due("41 none at all", x.lays(1, 2), 0);
    }

    private static void sheetEdges() {
        for (int s = 0; s < 4; s++) {
            ThinBodies x = new ThinBodies();
            Checks.due("38 missing at first", x.judge(s), Checks.MISSING);
            for (int bits : new int[] {8, 16, 64}) {
                Checks.due("38 no number", x.sheet(s, bits, 0), 0);
                Checks.due("38 it is there", x.lays(s, 0), 0);
                Checks.due("38 one number", x.sheet(s, bits, 1), 1);
                Checks.due("38 forty", x.sheet(s, bits, 40), 40);
                Checks.due("38 the last", x.write(s, 39, 7), 0);
                Checks.due("38 the first", x.write(s, 0, 7), 0);
                Checks.due("38 forty anew", x.sheet(s, bits, 40), 40);
                for (int i = 0; i < 40; i++) {
                    Checks.due("38 all 0", x.write(s, i, 5), 0);
                }
                x.sheet(s, bits, 2);
                Checks.due("38 not so many any more", x.write(s, 2, 1), Checks.BEYOND);
                x.sheet(s, bits, 3);
                Checks.due("38 what was there once doesn't come back", x.write(s, 2, 1), 0);
            }
            Checks.due("38 others are still missing", x.judge((s + 1) % 4), Checks.MISSING);
            Checks.due("38 away", x.sheet(s, 0, 7), 0);
            Checks.due("38 missing again", x.judge(s), Checks.MISSING);
            Checks.due("38 away once more, n least", x.sheet(s, 0, Integer.MIN_VALUE), 0);
            Checks.due("38 away once more, n most", x.sheet(s, 0, Integer.MAX_VALUE), 0);
        }
        ThinBodies x = new ThinBodies();
        x.sheet(0, 8, 4);
        x.sheet(0, 0, 4);
        Checks.due("38 a sheet that is missing has no numbers", x.write(0, 0, 1), Checks.MISSING);
        x.sheet(0, 64, 1);
        x.write(0, 0, 300);
        Checks.due("38 other bits now", x.write(0, 0, 1), 300);
    }

    private static void writeEdges() {
        ThinBodies x = new ThinBodies();
        x.sheet(3, 64, 40);
        Checks.due("39 the first", x.write(3, 0, 1), 0);
        Checks.due("39 the last", x.write(3, 39, 2), 0);
        Checks.due("39 behind the last", x.write(3, 40, 3), Checks.BEYOND);
        Checks.due("39 ahead of the first", x.write(3, -1, 3), Checks.BEYOND);
        Checks.due("39 the first", x.write(3, 0, 0), 1);
        Checks.due("39 the last", x.write(3, 39, 0), 2);
        Checks.due("39 beside the last", x.write(3, 38, 0), 0);
        x.sheet(2, 8, 1);
        long[][] of8 = {{-128, -128}, {-129, 127}, {127, 127}, {128, -128}, {-1, -1}, {Long.MIN_VALUE, 0}, {Long.MAX_VALUE, -1}};
        for (long[] pair : of8) {
            x.write(2, 0, pair[0]);
            Checks.due("39 8 bits of " + pair[0], x.write(2, 0, 0), pair[1]);
        }
        x.sheet(2, 16, 1);
        long[][] of16 = {{-32768, -32768}, {-32769, 32767}, {32767, 32767}, {32768, -32768}, {Long.MIN_VALUE, 0}, {Long.MAX_VALUE, -1}};
        for (long[] pair : of16) {
            x.write(2, 0, pair[0]);
            Checks.due("39 16 bits of " + pair[0], x.write(2, 0, 0), pair[1]);
        }
        x.sheet(2, 64, 1);
        for (long v : new long[] {Long.MIN_VALUE, Long.MAX_VALUE, -1000000007L, 1L << 32}) {
            x.write(2, 0, v);
            Checks.due("39 64 bits of " + v, x.write(2, 0, 0), v);
        }
        Checks.due("46 what it was is no finding", x.status(-1), 2);
    }

    private static void dueNumbers(String what, ThinBodies x, int s, int... due) {
        for (int i = 0; i < due.length; i++) {
            Checks.due(what + ": number " + i, x.write(s, i, due[i]), due[i]);
        }
    }

    private static void copyEdges() {
        ThinBodies x = new ThinBodies();
        Checks.lay(x, 0, 1, 2, 3);
        Checks.lay(x, 3, 4, 5, 6, 7);
        Checks.due("40 all of it", x.copy(0, 0, 3, 1, 3), 3);
        dueNumbers("40 all of it", x, 3, 4, 1, 2, 3);
        Checks.due("40 one more than it has", x.copy(0, 0, 3, 0, 4), Checks.BEYOND);
        Checks.due("40 one more than there is room for", x.copy(0, 0, 3, 2, 3), Checks.BEYOND);
        Checks.due("40 the last one to the last", x.copy(0, 2, 3, 3, 1), 1);
        Checks.due("40 behind the last", x.copy(0, 3, 3, 0, 1), Checks.BEYOND);
        Checks.due("40 to behind the last", x.copy(0, 0, 3, 4, 1), Checks.BEYOND);
        dueNumbers("40 nothing changed", x, 3, 4, 1, 2, 3);
        dueNumbers("40 what is copied stays", x, 0, 1, 2, 3);
        Checks.due("40 none, from the end to the end", x.copy(0, 3, 3, 4, 0), 0);
        Checks.due("40 none, from behind the end", x.copy(0, 4, 3, 4, 0), Checks.BEYOND);
        Checks.due("40 none, to behind the end", x.copy(0, 3, 3, 5, 0), Checks.BEYOND);
        Checks.due("40 none, from -1", x.copy(0, -1, 3, 0, 0), Checks.BEYOND);
        Checks.due("40 onto itself, the same place", x.copy(3, 0, 3, 0, 4), 4);
        dueNumbers("40 as it was", x, 3, 4, 1, 2, 3);
        x.sheet(1, 64, 0);
        Checks.due("40 none of none", x.copy(1, 0, 1, 0, 0), 0);
        Checks.due("40 one of none", x.copy(1, 0, 0, 0, 1), Checks.BEYOND);
        Checks.due("40 one to none", x.copy(0, 0, 1, 0, 1), Checks.BEYOND);
        for (int bits : new int[] {8, 16, 64}) {
            x.sheet(1, bits, 40);
            x.sheet(2, bits, 40);
            for (int i = 0; i < 40; i++) {
                x.write(1, i, -i);
            }
            Checks.due("40 forty", x.copy(1, 0, 2, 0, 40), 40);
            Checks.due("40 41", x.copy(1, 0, 2, 0, 41), Checks.BEYOND);
            Checks.due("40 the first", x.write(2, 0, 0), 0);
            Checks.due("40 the last", x.write(2, 39, 0), -39);
            Checks.due("40 39 up by one", x.copy(1, 0, 1, 1, 39), 39);
            Checks.due("40 as they were", x.write(1, 39, 0), -38);
            Checks.due("40 as they were", x.write(1, 1, 0), 0);
        }
    }

    private static void laysEdges() {
        ThinBodies x = Checks.told("letters 4;box 0 -9 -9;box 1 9 9;box 2 -1 -1;box 3 0 1");
        for (int size = 0; size <= 5; size++) {
            x.sheet(3, 8, size);
            int laid = Math.min(size, 4);
            Checks.due("41 " + size + " numbers", x.lays(3, 1), laid);
            int[] due = {-9, 9, -1, 1, 0};
            for (int i = 0; i < size; i++) {
                Checks.due("41 number " + i, x.write(3, i, 0), due[i]);
            }
        }
        x.sheet(3, 64, 0);
        Checks.due("41 no point, and no number", x.lays(3, 2), Checks.NONE);
        Checks.due("41 the last point", x.lays(3, 1), 0);
        Checks.read(x, "row 0 0 0 0 bound -1");
        Checks.due("41 none is in", x.lays(3, 0), Checks.NONE);
        Checks.due("41 missing", x.lays(0, 0), Checks.MISSING);
    }
}
