/** Promises 26 to 34: base, baseOf, mix, swap, det, form, shortest, common, lies. */
public final class LatticeTest {
    public static void main(String[] args) {
        base();
        mix();
        swap();
        det();
        form();
        shortest();
        common();
        lies();
        baseEdges();
        mixEdges();
        swapEdges();
        detEdges();
        shortestEdges();
        commonEdges();
        liesEdges();
        Checks.end();
    }

    private static ThinBodies with(int n, int... numbers) {
        ThinBodies x = new ThinBodies();
        x.letters(n);
        for (int i = 0; i < numbers.length; i++) {
            x.base(i / n, i % n, numbers[i]);
        }
        return x;
    }

    private static void dueVectors(String what, ThinBodies x, int n, int... numbers) {
        for (int i = 0; i < numbers.length; i++) {
            Checks.due(what, x.baseOf(i / n, i % n), numbers[i]);
        }
    }

    private static void dueForm(String what, ThinBodies x, int n, int... numbers) {
        for (int i = 0; i < numbers.length; i++) {
            Checks.due(what, x.form(i / n, i % n), numbers[i]);
        }
    }

    private static void dueShort(String what, ThinBodies x, int square, int... numbers) {
        Checks.due(what, x.shortest(-1), square);
        for (int i = 0; i < numbers.length; i++) {
            Checks.due(what, x.shortest(i), numbers[i]);
        }
    }

    private static void base() {
        ThinBodies x = new ThinBodies();
        dueVectors("27 at first", x, 2, 1, 0, 0, 1);
        Checks.due("26 what it was", x.base(0, 0, -4), 1);
        Checks.due("26 what it was", x.base(0, 0, 4), -4);
        Checks.due("26 v 5", x.base(0, 0, 5), Checks.BEYOND);
        Checks.due("26 v -5", x.base(0, 0, -5), Checks.BEYOND);
        Checks.due("26 vector 2", x.base(2, 0, 0), Checks.BEYOND);
        Checks.due("26 vector -1", x.base(-1, 0, 0), Checks.BEYOND);
        Checks.due("26 letter 2", x.base(0, 2, 0), Checks.BEYOND);
        Checks.due("26 letter -1", x.base(0, -1, 0), Checks.BEYOND);
        Checks.due("27 vector 2", x.baseOf(2, 0), Checks.BEYOND);
        Checks.due("27 vector -1", x.baseOf(-1, 0), Checks.BEYOND);
        Checks.due("27 letter 2", x.baseOf(0, 2), Checks.BEYOND);
        Checks.due("27 letter -1", x.baseOf(0, -1), Checks.BEYOND);
        dueVectors("27 nothing else changed", x, 2, 4, 0, 0, 1);
        x.letters(4);
        dueVectors("26 n changed", x, 4, 1, 0, 0, 0, 0, 1, 0, 0, 0, 0, 1, 0, 0, 0, 0, 1);
    }

    private static void mix() {
        ThinBodies x = with(2, 1, 2, -1, 1);
        Checks.due("28 mix", x.mix(0, 1, -2), 1);
        dueVectors("28 the other one changes", x, 2, 1, 2, -3, -3);
        Checks.due("28 state", x.mix(1, 0, 2), Checks.STATE);
        dueVectors("28 nothing changed", x, 2, 1, 2, -3, -3);
        Checks.due("28 k 0", x.mix(1, 0, 0), 1);
        Checks.due("28 k 4", x.mix(0, 1, 4), Checks.BEYOND);
        Checks.due("28 k -4", x.mix(0, 1, -4), Checks.BEYOND);
        Checks.due("28 the same", x.mix(1, 1, 0), Checks.BEYOND);
        Checks.due("28 vector 2", x.mix(2, 0, 1), Checks.BEYOND);
        Checks.due("28 other 2", x.mix(0, 2, 1), Checks.BEYOND);
        Checks.due("28 vector -1", x.mix(-1, 0, 1), Checks.BEYOND);
        Checks.due("28 other -1", x.mix(0, -1, 1), Checks.BEYOND);
        Checks.due("28 k 3", with(2, 1, 0, 1, 1).mix(0, 1, 3), 1);
        Checks.due("28 k -3", with(2, 1, 0, -1, 1).mix(0, 1, -3), 1);
        Checks.due("28 5 is too much", with(2, 1, 0, 2, 1).mix(0, 1, 3), Checks.STATE);
        Checks.due("28 -5 is too little", with(2, 1, 0, -2, 1).mix(0, 1, -3), Checks.STATE);
    }

    private static void swap() {
        ThinBodies x = with(3, 1, 2, 3, 4, -1, -2, -3, -4, 0);
        Checks.due("29 swap", x.swap(0, 2), 1);
        dueVectors("29 changed", x, 3, -3, -4, 0, 4, -1, -2, 1, 2, 3);
        Checks.due("29 the same", x.swap(2, 2), Checks.BEYOND);
        Checks.due("29 vector 3", x.swap(3, 0), Checks.BEYOND);
        Checks.due("29 other 3", x.swap(0, 3), Checks.BEYOND);
        Checks.due("29 vector -1", x.swap(-1, 0), Checks.BEYOND);
        Checks.due("29 other -1", x.swap(0, -1), Checks.BEYOND);
    }

    private static void det() {
        Checks.due("30 one", with(1, -3).det(), -3);
        Checks.due("30 two", with(2, 1, 2, 3, 4).det(), -2);
        Checks.due("30 like ones", with(2, 1, 2, 2, 4).det(), 0);
        Checks.due("30 0 ahead", with(2, 0, 3, 2, 0).det(), -6);
        Checks.due("30 the greatest", with(4, 4, 4, 4, 4, 4, -4, 4, -4, 4, 4, -4, -4, 4, -4, -4, 4).det(), 4096);
        Checks.due("30 three", with(3, 3, 1, 0, 0, 4, -2, 1, 0, 3).det(), 34);
        ThinBodies x = with(3, 3, 1, 0, 0, 4, -2, 1, 0, 3);
        x.mix(0, 2, -1);
        Checks.due("30 mixed", x.det(), 34);
        x.swap(1, 2);
        Checks.due("30 swapped", x.det(), -34);
        Checks.due("30 vectors stay", x.baseOf(0, 1), 1);
    }

    private static void form() {
        dueForm("31 one", with(1, -3), 1, 3);
        dueForm("31 two", with(2, 4, 1, 2, 3), 2, 2, 3, 0, 5);
        dueForm("31 three", with(3, 3, 1, 0, 0, 4, -2, 1, 0, 3), 3, 1, 0, 3, 0, 1, 25, 0, 0, 34);
        dueForm("31 below 0", with(2, -2, -3, 0, -4), 2, 2, 3, 0, 4);
        dueForm("31 those ahead of a 1 have 0", with(2, 2, 3, 0, 1), 2, 2, 0, 0, 1);
        dueForm("31 those ahead have that less 1 at most", with(2, 2, 4, 0, 4), 2, 2, 0, 0, 4);
        dueForm("31 and 0 at least", with(2, 2, -1, 0, 4), 2, 2, 3, 0, 4);
        ThinBodies x = with(2, 1, 2, 2, 4);
        Checks.due("31 none", x.form(0, 0), Checks.NONE);
        Checks.due("31 vector 2", x.form(2, 0), Checks.BEYOND);
        Checks.due("31 vector -1", x.form(-1, 0), Checks.BEYOND);
        Checks.due("31 letter 2", x.form(0, 2), Checks.BEYOND);
        Checks.due("31 letter -1", x.form(0, -1), Checks.BEYOND);
    }

    private static void shortest() {
        dueShort("32 at first letter 0 is greatest", new ThinBodies(), 1, 1, 0);
        dueShort("32 4 and -4", with(1, -4), 16, 4);
        dueShort("32 (3, 4) less (2, 4)", with(2, 3, 4, 2, 4), 1, 1, 0);
        dueShort("32 (2, 1) or (1, -2), (2, -1) isn't", with(2, 2, 1, -1, 2), 5, 2, 1);
        // all are (a, a + 2b, b + 4c): with (1, -1) ahead the last can't be 0
        dueShort("32 (1, 1, 0), as (1, -1, 0) isn't", with(3, 1, 1, 0, 0, 2, 1, 0, 0, 4), 2, 1, 1, 0);
        dueShort("32 (0, 2) or (0, -2)", with(2, 4, 0, 0, -2), 4, 0, 2);
        dueShort("32 the longest shortest", with(4, 4, 4, 4, 4, 4, -4, 4, -4, 4, 4, -4, -4, 4, -4, -4, 4), 64, 4, 4, 4, 4);
        ThinBodies x = with(2, 1, 2, 2, 4);
        Checks.due("32 none", x.shortest(-1), Checks.NONE);
        Checks.due("32 letter 2", x.shortest(2), Checks.BEYOND);
        Checks.due("32 letter -2", x.shortest(-2), Checks.BEYOND);
    }

    private static void common() {
        ThinBodies x = with(2, 2, 0, 1, 1);
        Checks.due("33 half", x.common(), 8);
        x.row(0, 3, 1);
        x.change(0, 3, 1);
        x.change(0, 4, 1);
        Checks.due("33 sums 0 and 2", x.common(), 4);
        x.change(0, 1, -1);
        Checks.due("33 none is in", x.common(), 0);
        x.base(0, 0, 0);
        Checks.due("33 the determinant is 0", x.common(), Checks.NONE);
    }

    private static void lies() {
        ThinBodies x = with(2, 2, 0, 1, 1);
        Checks.due("34 sheet 4", x.lies(4), Checks.BEYOND);
        Checks.due("34 sheet -1", x.lies(-1), Checks.BEYOND);
        Checks.due("34 missing", x.lies(0), Checks.MISSING);
        Checks.lay(x, 0, 1000);
        Checks.due("34 size", x.lies(0), Checks.SIZE);
        Checks.lay(x, 0, 1000, 0);
        Checks.due("34 state", x.lies(0), Checks.STATE);
        Checks.lay(x, 0, 0, -1000);
        Checks.due("34 state", x.lies(0), Checks.STATE);
        Checks.lay(x, 0, -999, 999, 5000);
        Checks.due("34 lies", x.lies(0), 1);
        Checks.lay(x, 0, -999, 998);
        Checks.due("34 doesn't lie", x.lies(0), 0);
        x.base(0, 0, 0);
        Checks.due("34 none", x.lies(0), Checks.NONE);
        Checks.lay(x, 0, 0, -1000);
        Checks.due("34 state is asked ahead of none", x.lies(0), Checks.STATE);
    }

    private static void baseEdges() {
        for (int n = 1; n <= 4; n++) {
            ThinBodies x = new ThinBodies();
            x.letters(n);
            int last = n - 1;
            Checks.due("26 the last of the last", x.base(last, last, -4), 1);
            Checks.due("26 the greatest", x.base(last, last, 4), -4);
            Checks.due("26 below the least", x.base(last, last, -5), Checks.BEYOND);
            Checks.due("26 above the greatest", x.base(last, last, 5), Checks.BEYOND);
            Checks.due("27 the last of the last", x.baseOf(last, last), 4);
            Checks.due("26 no such vector", x.base(n, 0, 0), Checks.BEYOND);
            Checks.due("26 no such letter", x.base(0, n, 0), Checks.BEYOND);
            Checks.due("27 no such vector", x.baseOf(n, 0), Checks.BEYOND);
            Checks.due("27 no such letter", x.baseOf(0, n), Checks.BEYOND);
            Checks.due("31 the last of the last", x.form(last, last), 4);
            Checks.due("31 no such vector", x.form(n, 0), Checks.BEYOND);
            Checks.due("31 no such letter", x.form(0, n), Checks.BEYOND);
        }
    }

    private static void mixEdges() {
        ThinBodies one = new ThinBodies();
        one.letters(1);
        Checks.due("28 of one letter there is no other", one.mix(0, 0, 0), Checks.BEYOND);
        for (int n = 2; n <= 4; n++) {
            int last = n - 1;
            for (int sign = -1; sign <= 1; sign += 2) {
                ThinBodies x = new ThinBodies();
                x.letters(n);
                x.base(0, last, sign);
                Checks.due("28 3 times to the last", x.mix(last, 0, 3 * sign), 1);
                Checks.due("28 4 in the last letter", x.baseOf(0, last), 4 * sign);
                Checks.due("28 the one that is mixed stays", x.baseOf(last, last), 1);
                Checks.due("28 one more would be too much", x.mix(last, 0, sign), Checks.STATE);
                Checks.due("28 0 times is fine", x.mix(last, 0, 0), 1);
                Checks.due("28 one less", x.mix(last, 0, -sign), 1);
                Checks.due("28 3 in the last letter", x.baseOf(0, last), 3 * sign);
                Checks.due("28 the first letter stays", x.baseOf(0, 0), 1);
                Checks.due("28 no such vector", x.mix(n, 0, 1), Checks.BEYOND);
                Checks.due("28 no such other", x.mix(0, n, 1), Checks.BEYOND);
                x.base(0, 0, 4);
                x.base(0, last, 0);
                Checks.due("28 12 in the first letter", x.mix(0, last, 3), Checks.STATE);
                Checks.due("28 nothing of it came", x.baseOf(last, 0), 0);
            }
        }
    }

    private static void swapEdges() {
        ThinBodies one = new ThinBodies();
        one.letters(1);
        Checks.due("29 of one letter there is no other", one.swap(0, 0), Checks.BEYOND);
        Checks.due("29 nor vector 1", one.swap(0, 1), Checks.BEYOND);
        ThinBodies x = with(4, 1, 2, 3, 4, -1, -2, -3, -4, 0, 1, 0, 1, 4, 3, 2, 1);
        Checks.due("29 the first and the last", x.swap(0, 3), 1);
        dueVectors("29 changed", x, 4, 4, 3, 2, 1, -1, -2, -3, -4, 0, 1, 0, 1, 1, 2, 3, 4);
        Checks.due("29 and back", x.swap(3, 0), 1);
        dueVectors("29 as they were", x, 4, 1, 2, 3, 4, -1, -2, -3, -4, 0, 1, 0, 1, 4, 3, 2, 1);
        Checks.due("29 vector 4", x.swap(4, 0), Checks.BEYOND);
        Checks.due("29 other 4", x.swap(0, 4), Checks.BEYOND);
    }

    private static void detEdges() {
        for (int v = -4; v <= 4; v++) {
            Checks.due("30 of one letter", with(1, v).det(), v);
        }
        Checks.due("30 units", new ThinBodies().det(), 1);
        Checks.due("30 all 0", with(2, 0, 0, 0, 0).det(), 0);
        Checks.due("30 all 0", with(4, new int[16]).det(), 0);
        Checks.due("30 the least", with(4, 4, -4, 4, -4, 4, 4, 4, 4, 4, 4, -4, -4, 4, -4, -4, 4).det(), -4096);
        Checks.due("30 the greatest of three", with(3, 4, 4, 4, 4, -4, 4, -4, 4, 4).det(), -256);
        Checks.due("30 0 in all the first letters", with(3, 0, 1, 2, 0, 3, 4, 0, -4, 1).det(), 0);
        Checks.due("30 0 in the last", with(3, 1, 0, 0, 0, 1, 0, 1, 1, 0).det(), 0);
        Checks.due("30 turned", with(3, 0, 0, 2, 0, 3, 0, 4, 0, 0).det(), -24);
        Checks.due("30 in a ring", with(4, 0, 1, 0, 0, 0, 0, 1, 0, 0, 0, 0, 1, 1, 0, 0, 0).det(), -1);
    }

    private static void shortestEdges() {
        for (int n = 1; n <= 4; n++) {
            ThinBodies x = new ThinBodies();
            x.letters(n);
            Checks.due("32 letter -1: squares", x.shortest(-1), 1);
            Checks.due("32 letter -2", x.shortest(-2), Checks.BEYOND);
            Checks.due("32 letter 0", x.shortest(0), 1);
            Checks.due("32 no such letter", x.shortest(n), Checks.BEYOND);
            for (int i = 1; i < n; i++) {
                Checks.due("32 else 0", x.shortest(i), 0);
            }
            x.base(0, 0, 0);
            Checks.due("32 determinant 0", x.shortest(n - 1), Checks.NONE);
        }
    }

    private static void commonEdges() {
        ThinBodies x = Checks.told("letters 4;box 0 0 7;box 1 0 7;box 2 0 7;box 3 0 7");
        Checks.due("33 all", x.common(), 4096);
        for (int i = 0; i < 4; i++) {
            x.base(i, i, i % 2 == 0 ? 4 : -4);
        }
        Checks.due("33 0 and 4 in each", x.common(), 16);
        x.box(3, 1, 3);
        Checks.due("33 none of 1 to 3", x.common(), 0);
        x.box(3, -8, -4);
        Checks.due("33 -8 and -4", x.common(), 16);
        Checks.read(x, "tie 1 1 1 1 bound -8");
        // (0, 0, 0, -8) alone
        Checks.due("33 that are in, too", x.common(), 1);
        x.change(0, 1, -9);
        Checks.due("33 none of those that are in", x.common(), 0);
        ThinBodies y = with(2, 1, 2, 0, 3);
        // (0, 0), (0, 3), (1, 2), (2, 1), (3, 0), (3, 3)
        Checks.due("33 y is 2x but for threes", y.common(), 6);
        y.box(0, -2, -1);
        Checks.due("33 (-2, 2), (-1, 1)", y.common(), 2);
    }

    private static void liesEdges() {
        ThinBodies x = with(2, 1, 2, 0, 3);
        Checks.lay(x, 3, 0, 0);
        Checks.due("34 sheet 3: 0 alone lies in each", x.lies(3), 1);
        int[][] points = {{1, 2}, {-1, -2}, {0, 3}, {0, -3}, {1, -1}, {999, 999}, {-999, 999}, {998, 1}, {999, 0}, {0, 999}};
        for (int[] at : points) {
            Checks.lay(x, 0, at[0], at[1]);
            Checks.due("34 (" + at[0] + ", " + at[1] + ") lies", x.lies(0), 1);
        }
        int[][] others = {{0, 1}, {0, 2}, {0, -1}, {1, 0}, {1, 1}, {-1, 2}, {999, 998}, {-999, -998}, {998, 0}};
        for (int[] at : others) {
            Checks.lay(x, 0, at[0], at[1]);
            Checks.due("34 (" + at[0] + ", " + at[1] + ") doesn't", x.lies(0), 0);
        }
        Checks.lay(x, 0, 1000, 2);
        Checks.due("34 1000", x.lies(0), Checks.STATE);
        Checks.lay(x, 0, 3, -1000);
        Checks.due("34 -1000", x.lies(0), Checks.STATE);
        Checks.lay(x, 0, 1L << 32, 0);
        Checks.due("34 much more than an int", x.lies(0), Checks.STATE);
        Checks.lay(x, 0, 0, 0, 1000);
        Checks.due("34 what is behind the point doesn't matter", x.lies(0), 1);
        ThinBodies four = with(4, 4, 0, 0, 1, 0, 4, 0, 1, 0, 0, 4, 1, 0, 0, 0, 4);
        Checks.lay(four, 0, 4, -8, 12, 2);
        Checks.due("34 1 less 2 and 3 more is 2", four.lies(0), 1);
        Checks.lay(four, 0, 4, -8, 12, 1);
        Checks.due("34 not 1", four.lies(0), 0);
        Checks.lay(four, 0, 4, -8, 11, 2);
        Checks.due("34 11 is no multiple", four.lies(0), 0);
        Checks.lay(four, 0, 4, -8, 12);
        Checks.due("34 3 numbers for 4 letters", four.lies(0), Checks.SIZE);
    }
}
