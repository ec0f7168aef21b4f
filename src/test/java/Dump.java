import java.util.ArrayList;
import java.util.List;

/**
 * All that can be seen of an object, for tests that two objects are in the same state. Looking uses
 * the object up: its sheets are written over, its tape is read as a text, what is kept comes back.
 */
final class Dump {
    interface Act {
        long on(ThinBodies x);
    }

    private Dump() {
    }

    /**
     * An object of which each part differs from a new one's: 3 letters, 24 points of the box, 6 of
     * them in: (-1, 1), (0, 0) and (1, -1) with 3 and with 4; 4 rows, vectors with determinant 2,
     * another body kept, a text on the tape. Sheet 0 holds the point 1, sheet 1 has too few numbers
     * for a point, sheet 2 is missing, sheet 3 has a number that is too great for one.
     */
    static ThinBodies rich() {
        ThinBodies x = Checks.told("box 0 2 4;off 1 -1 bound 7 within 2;row 3 4");
        x.base(0, 1, 2);
        x.image();
        Checks.read(x, "letters 3;box 0 -2 1;box 1 -1 1;box 2 3 4;band 1 1 1 bound 5 within 2;comb 1 1 0 within 2");
        x.change(1, 1, 1);
        x.change(1, 6, -7);
        x.base(0, 0, 2);
        x.base(1, 2, -3);
        x.base(2, 0, 4);
        x.sheet(0, 8, 3);
        x.lays(0, 1);
        x.sheet(1, 64, 2);
        x.write(1, 0, 1L << 50);
        x.write(1, 1, -6);
        x.sheet(3, 16, 4);
        x.write(3, 0, 5);
        x.write(3, 2, 1000);
        x.write(3, 3, -20000);
        Checks.feed(x, "least 1 -2 3 bound -5");
        return x;
    }

    static int[] statuses(ThinBodies x) {
        int[] found = new int[8];
        for (int which = -1; which < 7; which++) {
            found[which + 1] = x.status(which);
        }
        return found;
    }

    /** All but the findings that were told. */
    static List<Long> all(ThinBodies x) {
        List<Long> seen = new ArrayList<>();
        body(x, seen);
        for (int s = 0; s < 4; s++) {
            sheet(x, s, seen);
        }
        seen.add((long) x.text());
        body(x, seen);
        seen.add((long) x.undo());
        body(x, seen);
        seen.add((long) x.tear());
        return seen;
    }

    private static void body(ThinBodies x, List<Long> seen) {
        int n = x.count(0);
        int rows = x.count(1);
        for (int what = 0; what < 4; what++) {
            seen.add((long) x.count(what));
            seen.add((long) x.tree(what));
        }
        for (int i = 0; i < n; i++) {
            seen.add((long) x.boxOf(i, 0));
            seen.add((long) x.boxOf(i, 1));
            for (int v = 0; v < n; v++) {
                seen.add((long) x.baseOf(v, i));
            }
        }
        for (int r = 0; r < rows; r++) {
            for (int what = 0; what < 7; what++) {
                seen.add((long) x.of(r, what));
            }
        }
        seen.add((long) x.many());
        seen.add((long) x.det());
    }

    private static void sheet(ThinBodies x, int s, List<Long> seen) {
        boolean more = true;
        for (int i = 0; i <= 40 && more; i++) {
            long was = x.write(s, i, 0);
            seen.add(was);
            more = was != Checks.BEYOND && was != Checks.MISSING;
        }
        // how many bits it has: of these three ones as many come back
        x.write(s, 0, (1L << 40) | (1 << 12) | 1);
        seen.add(x.write(s, 0, 0));
    }

    /** That an act is refused with a finding, and changes nothing but how many findings were told. */
    static void refused(String what, long finding, Act ahead, Act act) {
        compare(what, finding, true, ahead, act);
    }

    static void refused(String what, long finding, Act act) {
        compare(what, finding, true, x -> 0, act);
    }

    /** That an act answers this, and changes nothing at all. */
    static void asked(String what, long due, Act act) {
        compare(what, due, false, x -> 0, act);
    }

    private static void compare(String what, long due, boolean refused, Act ahead, Act act) {
        ThinBodies with = rich();
        ThinBodies without = rich();
        ahead.on(with);
        ahead.on(without);
        Checks.due(what, act.on(with), due);
        int[] found = statuses(with);
        int[] foundElse = statuses(without);
        for (int which = -1; which < 7; which++) {
            boolean told = refused && (which == -1 || which == -1000000001 - due);
            Checks.due(what + ": status(" + which + ")", found[which + 1], foundElse[which + 1] + (told ? 1 : 0));
        }
        if (!all(with).equals(all(without))) {
            Checks.fail(what + " changed something");
        }
    }
}
