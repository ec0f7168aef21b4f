/** Promises 38 to 41: sheet, write, copy, lays. */
public final class SheetsTest {
    public static void main(String[] args) {
        sheet();
        write();
        copy();
        lays();
        Checks.end();
    }

    private static void sheet() {
        ThinBodies x = new ThinBodies();
        for (int bits : new int[] {8, 16, 64}) {
            Checks.due("38 sheet", x.sheet(3, bits, 40), 40);
            Checks.due("38 0 numbers", x.sheet(3, bits, 0), 0);
            Checks.due("38 it isn't missing", x.write(3, 0, 1), Checks.BEYOND);
        }
        Checks.due("38 sheet 4", x.sheet(4, 8, 1), Checks.BEYOND);
        Checks.due("38 sheet -1", x.sheet(-1, 8, 1), Checks.BEYOND);
        Checks.due("38 bits 32", x.sheet(0, 32, 1), Checks.BEYOND);
        Checks.due("38 bits -8", x.sheet(0, -8, 1), Checks.BEYOND);
        Checks.due("38 bits ahead of size", x.sheet(0, 1, -1), Checks.BEYOND);
        Checks.due("38 size", x.sheet(0, 8, -1), Checks.SIZE);
        Checks.due("38 41", x.sheet(0, 8, 41), Checks.BEYOND);
        Checks.due("38 still missing", x.write(0, 0, 1), Checks.MISSING);
        x.sheet(0, 8, 3);
        x.write(0, 1, 5);
        Checks.due("38 a finding changes nothing", x.sheet(0, 8, 41), Checks.BEYOND);
        Checks.due("38 5 stays", x.write(0, 1, 6), 5);
        Checks.due("38 all 0", x.sheet(0, 8, 3), 3);
        Checks.due("38 all 0", x.write(0, 1, 6), 0);
        Checks.due("38 missing, n -1", x.sheet(0, 0, -1), 0);
        Checks.due("38 missing, n 41", x.sheet(0, 0, 41), 0);
        Checks.due("38 missing", x.write(0, 0, 1), Checks.MISSING);
    }

    private static void write() {
        ThinBodies x = new ThinBodies();
        Checks.due("39 sheet 4", x.write(4, 0, 0), Checks.BEYOND);
        Checks.due("39 sheet -1", x.write(-1, 0, 0), Checks.BEYOND);
        Checks.due("39 missing is asked ahead of beyond", x.write(0, -1, 0), Checks.MISSING);
        long[] written = {127, 128, 255, 256, -129, 32767, 32768, 65535, 65536, Long.MAX_VALUE, Long.MIN_VALUE, -1000000001L};
        long[] of8 = {127, -128, -1, 0, 127, -1, 0, -1, 0, -1, 0, -1};
        long[] of16 = {127, 128, 255, 256, -129, 32767, -32768, -1, 0, -1, 0, 13823};
        for (int i = 0; i < written.length; i++) {
            x.sheet(0, 8, 2);
            x.sheet(1, 16, 2);
            x.sheet(2, 64, 2);
            x.write(0, 1, written[i]);
            x.write(1, 1, written[i]);
            x.write(2, 1, written[i]);
            Checks.due("39 8 bits of " + written[i], x.write(0, 1, 0), of8[i]);
            Checks.due("39 16 bits of " + written[i], x.write(1, 1, 0), of16[i]);
            Checks.due("39 64 bits of " + written[i], x.write(2, 1, 0), written[i]);
            Checks.due("39 number 0 stays", x.write(2, 0, 0), 0);
        }
        Checks.due("39 no finding", x.status(-1), 3);
        Checks.due("39 number 2", x.write(0, 2, 0), Checks.BEYOND);
        Checks.due("39 number -1", x.write(0, -1, 0), Checks.BEYOND);
    }

    private static void copy() {
        ThinBodies x = new ThinBodies();
        Checks.lay(x, 0, 1, 2, 3, 4, 5);
        x.sheet(1, 64, 3);
        x.sheet(2, 16, 5);
        Checks.due("40 sheet 4", x.copy(4, 0, 0, 0, 1), Checks.BEYOND);
        Checks.due("40 to sheet 4", x.copy(3, 0, 4, 0, 1), Checks.BEYOND);
        Checks.due("40 to sheet -1", x.copy(0, 0, -1, 0, 1), Checks.BEYOND);
        Checks.due("40 sheet -1", x.copy(-1, 0, 0, 0, 1), Checks.BEYOND);
        Checks.due("40 missing", x.copy(3, 0, 0, 0, 1), Checks.MISSING);
        Checks.due("40 to missing", x.copy(0, 9, 3, 0, 1), Checks.MISSING);
        Checks.due("40 kind is asked ahead of beyond", x.copy(0, 9, 2, 0, 1), Checks.KIND);
        Checks.due("40 copy", x.copy(0, 1, 1, 0, 3), 3);
        for (int i = 0; i < 3; i++) {
            Checks.due("40 came", x.write(1, i, 0), 2 + i);
        }
        Checks.due("40 four to three", x.copy(0, 0, 1, 0, 4), Checks.BEYOND);
        Checks.due("40 from 3 on three", x.copy(0, 3, 1, 0, 3), Checks.BEYOND);
        Checks.due("40 from -1", x.copy(0, -1, 1, 0, 1), Checks.BEYOND);
        Checks.due("40 to -1", x.copy(0, 0, 1, -1, 1), Checks.BEYOND);
        Checks.due("40 n -1", x.copy(0, 1, 1, 1, -1), Checks.BEYOND);
        Checks.due("40 very many", x.copy(0, 1, 1, 1, Integer.MAX_VALUE), Checks.BEYOND);
        Checks.due("40 from very far", x.copy(0, Integer.MAX_VALUE, 1, 1, Integer.MAX_VALUE), Checks.BEYOND);
        Checks.due("40 none", x.copy(0, 5, 1, 3, 0), 0);
        Checks.due("40 none from beyond", x.copy(0, 6, 1, 3, 0), Checks.BEYOND);
        Checks.due("40 onto itself", x.copy(0, 0, 0, 1, 4), 4);
        int[] due = {1, 1, 2, 3, 4};
        for (int i = 0; i < 5; i++) {
            Checks.due("40 as they were", x.write(0, i, i), due[i]);
        }
        Checks.due("40 and back", x.copy(0, 2, 0, 0, 3), 3);
        int[] back = {2, 3, 4, 3, 4};
        for (int i = 0; i < 5; i++) {
            Checks.due("40 as they were", x.write(0, i, 0), back[i]);
        }
    }

    private static void lays() {
        ThinBodies x = Checks.told("letters 3;box 0 -9 -8;box 1 1 2;box 2 4 5");
        Checks.due("41 sheet 4", x.lays(4, 0), Checks.BEYOND);
        Checks.due("41 sheet -1", x.lays(-1, 0), Checks.BEYOND);
        Checks.due("41 missing is asked ahead of none", x.lays(0, 8), Checks.MISSING);
        Checks.lay(x, 0, 7, 7, 7, 7);
        Checks.due("41 none", x.lays(0, 8), Checks.NONE);
        Checks.due("41 none", x.lays(0, -1), Checks.NONE);
        Checks.due("41 three", x.lays(0, 5), 3);
        int[] due = {-8, 1, 5, 7};
        for (int i = 0; i < 4; i++) {
            Checks.due("41 laid", x.write(0, i, 0), due[i]);
        }
        x.sheet(1, 8, 2);
        Checks.due("41 two", x.lays(1, 2), 2);
        Checks.due("41 laid", x.write(1, 0, 0), -9);
        Checks.due("41 laid", x.write(1, 1, 0), 2);
        x.sheet(1, 16, 0);
        Checks.due("41 none at all", x.lays(1, 2), 0);
    }
}
