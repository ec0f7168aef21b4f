/** Promises 26 to 34: base, baseOf, mix, swap, det, form, shortest, common, lies. */
public final class LatticeTest {
    public static void main(String[] args) {
        base();
        mix();
        swap();
        det();
        form();
        shortest();
        common();
        lies();
        Checks.end();
    }

    private static ThinBodies with(int n, int... numbers) {
        ThinBodies x = new ThinBodies();
        x.letters(n);
        for (int i = 0; i < numbers.length; i++) {
            x.base(i / n, i % n, numbers[i]);
        }
        return x;
    }

    private static void dueVectors(String what, ThinBodies x, int n, int... numbers) {
        for (int i = 0; i < numbers.length; i++) {
            Checks.due(what, x.baseOf(i / n, i % n), numbers[i]);
        }
    }

    private static void dueForm(String what, ThinBodies x, int n, int... numbers) {
        for (int i = 0; i < numbers.length; i++) {
            Checks.due(what, x.form(i / n, i % n), numbers[i]);
        }
    }

    private static void dueShort(String what, ThinBodies x, int square, int... numbers) {
        Checks.due(what, x.shortest(-1), square);
        for (int i = 0; i < numbers.length; i++) {
            Checks.due(what, x.shortest(i), numbers[i]);
        }
    }

    private static void base() {
        ThinBodies x = new ThinBodies();
        dueVectors("27 at first", x, 2, 1, 0, 0, 1);
        Checks.due("26 what it was", x.base(0, 0, -4), 1);
        Checks.due("26 what it was", x.base(0, 0, 4), -4);
        Checks.due("26 v 5", x.base(0, 0, 5), Checks.BEYOND);
        Checks.due("26 v -5", x.base(0, 0, -5), Checks.BEYOND);
        Checks.due("26 vector 2", x.base(2, 0, 0), Checks.BEYOND);
        Checks.due("26 vector -1", x.base(-1, 0, 0), Checks.BEYOND);
        Checks.due("26 letter 2", x.base(0, 2, 0), Checks.BEYOND);
        Checks.due("26 letter -1", x.base(0, -1, 0), Checks.BEYOND);
        Checks.due("27 vector 2", x.baseOf(2, 0), Checks.BEYOND);
        Checks.due("27 vector -1", x.baseOf(-1, 0), Checks.BEYOND);
        Checks.due("27 letter 2", x.baseOf(0, 2), Checks.BEYOND);
        Checks.due("27 letter -1", x.baseOf(0, -1), Checks.BEYOND);
        dueVectors("27 nothing else changed", x, 2, 4, 0, 0, 1);
        x.letters(4);
        dueVectors("26 n changed", x, 4, 1, 0, 0, 0, 0, 1, 0, 0, 0, 0, 1, 0, 0, 0, 0, 1);
    }

    private static void mix() {
        ThinBodies x = with(2, 1, 2, -1, 1);
        Checks.due("28 mix", x.mix(0, 1, -2), 1);
        dueVectors("28 the other one changes", x, 2, 1, 2, -3, -3);
        Checks.due("28 state", x.mix(1, 0, 2), Checks.STATE);
        dueVectors("28 nothing changed", x, 2, 1, 2, -3, -3);
        Checks.due("28 k 0", x.mix(1, 0, 0), 1);
        Checks.due("28 k 4", x.mix(0, 1, 4), Checks.BEYOND);
        Checks.due("28 k -4", x.mix(0, 1, -4), Checks.BEYOND);
        Checks.due("28 the same", x.mix(1, 1, 0), Checks.BEYOND);
        Checks.due("28 vector 2", x.mix(2, 0, 1), Checks.BEYOND);
        Checks.due("28 other 2", x.mix(0, 2, 1), Checks.BEYOND);
        Checks.due("28 vector -1", x.mix(-1, 0, 1), Checks.BEYOND);
        Checks.due("28 other -1", x.mix(0, -1, 1), Checks.BEYOND);
        Checks.due("28 k 3", with(2, 1, 0, 1, 1).mix(0, 1, 3), 1);
        Checks.due("28 k -3", with(2, 1, 0, -1, 1).mix(0, 1, -3), 1);
        Checks.due("28 5 is too much", with(2, 1, 0, 2, 1).mix(0, 1, 3), Checks.STATE);
        Checks.due("28 -5 is too little", with(2, 1, 0, -2, 1).mix(0, 1, -3), Checks.STATE);
    }

    private static void swap() {
        ThinBodies x = with(3, 1, 2, 3, 4, -1, -2, -3, -4, 0);
        Checks.due("29 swap", x.swap(0, 2), 1);
        dueVectors("29 changed", x, 3, -3, -4, 0, 4, -1, -2, 1, 2, 3);
        Checks.due("29 the same", x.swap(2, 2), Checks.BEYOND);
        Checks.due("29 vector 3", x.swap(3, 0), Checks.BEYOND);
        Checks.due("29 other 3", x.swap(0, 3), Checks.BEYOND);
        Checks.due("29 vector -1", x.swap(-1, 0), Checks.BEYOND);
        Checks.due("29 other -1", x.swap(0, -1), Checks.BEYOND);
    }

    private static void det() {
        Checks.due("30 one", with(1, -3).det(), -3);
        Checks.due("30 two", with(2, 1, 2, 3, 4).det(), -2);
        Checks.due("30 like ones", with(2, 1, 2, 2, 4).det(), 0);
        Checks.due("30 0 ahead", with(2, 0, 3, 2, 0).det(), -6);
        Checks.due("30 the greatest", with(4, 4, 4, 4, 4, 4, -4, 4, -4, 4, 4, -4, -4, 4, -4, -4, 4).det(), 4096);
        Checks.due("30 three", with(3, 3, 1, 0, 0, 4, -2, 1, 0, 3).det(), 34);
        ThinBodies x = with(3, 3, 1, 0, 0, 4, -2, 1, 0, 3);
        x.mix(0, 2, -1);
        Checks.due("30 mixed", x.det(), 34);
        x.swap(1, 2);
        Checks.due("30 swapped", x.det(), -34);
        Checks.due("30 vectors stay", x.baseOf(0, 1), 1);
    }

    private static void form() {
        dueForm("31 one", with(1, -3), 1, 3);
        dueForm("31 two", with(2, 4, 1, 2, 3), 2, 2, 3, 0, 5);
        dueForm("31 three", with(3, 3, 1, 0, 0, 4, -2, 1, 0, 3), 3, 1, 0, 3, 0, 1, 25, 0, 0, 34);
        dueForm("31 below 0", with(2, -2, -3, 0, -4), 2, 2, 3, 0, 4);
        ThinBodies x = with(2, 1, 2, 2, 4);
        Checks.due("31 none", x.form(0, 0), Checks.NONE);
        Checks.due("31 vector 2", x.form(2, 0), Checks.BEYOND);
        Checks.due("31 vector -1", x.form(-1, 0), Checks.BEYOND);
        Checks.due("31 letter 2", x.form(0, 2), Checks.BEYOND);
        Checks.due("31 letter -1", x.form(0, -1), Checks.BEYOND);
    }

    private static void shortest() {
        dueShort("32 at first letter 0 is greatest", new ThinBodies(), 1, 1, 0);
        dueShort("32 4 and -4", with(1, -4), 16, 4);
        dueShort("32 (3, 4) less (2, 4)", with(2, 3, 4, 2, 4), 1, 1, 0);
        dueShort("32 (2, 1) or (1, -2), (2, -1) isn't", with(2, 2, 1, -1, 2), 5, 2, 1);
        dueShort("32 (0, 2) or (0, -2)", with(2, 4, 0, 0, -2), 4, 0, 2);
        dueShort("32 the longest shortest", with(4, 4, 4, 4, 4, 4, -4, 4, -4, 4, 4, -4, -4, 4, -4, -4, 4), 64, 4, 4, 4, 4);
        ThinBodies x = with(2, 1, 2, 2, 4);
        Checks.due("32 none", x.shortest(-1), Checks.NONE);
        Checks.due("32 letter 2", x.shortest(2), Checks.BEYOND);
        Checks.due("32 letter -2", x.shortest(-2), Checks.BEYOND);
    }

    private static void common() {
        ThinBodies x = with(2, 2, 0, 1, 1);
        Checks.due("33 half", x.common(), 8);
        x.row(0, 3, 1);
        x.change(0, 3, 1);
        x.change(0, 4, 1);
        Checks.due("33 sums 0 and 2", x.common(), 4);
        x.change(0, 1, -1);
        Checks.due("33 none is in", x.common(), 0);
        x.base(0, 0, 0);
        Checks.due("33 the determinant is 0", x.common(), Checks.NONE);
    }

    private static void lies() {
        ThinBodies x = with(2, 2, 0, 1, 1);
        Checks.due("34 sheet 4", x.lies(4), Checks.BEYOND);
        Checks.due("34 sheet -1", x.lies(-1), Checks.BEYOND);
        Checks.due("34 missing", x.lies(0), Checks.MISSING);
        Checks.lay(x, 0, 1000);
        Checks.due("34 size", x.lies(0), Checks.SIZE);
        Checks.lay(x, 0, 1000, 0);
        Checks.due("34 state", x.lies(0), Checks.STATE);
        Checks.lay(x, 0, 0, -1000);
        Checks.due("34 state", x.lies(0), Checks.STATE);
        Checks.lay(x, 0, -999, 999, 5000);
        Checks.due("34 lies", x.lies(0), 1);
        Checks.lay(x, 0, -999, 998);
        Checks.due("34 doesn't lie", x.lies(0), 0);
        x.base(0, 0, 0);
        Checks.due("34 none", x.lies(0), Checks.NONE);
        Checks.lay(x, 0, 0, -1000);
        Checks.due("34 state is asked ahead of none", x.lies(0), Checks.STATE);
    }
}
