/**
 * Promise 37 with term 3: behind each part of a text, each two tokens (with a blank between, or
 * none), against the oracle: how many items, or where the fault is, and what became of the body.
 */
public final class TextEdgesTest {
    private static final String[] PARTS = {"", " ", "letters", "letters 4", "letters 1;", "letters 3;box", "box", "box 1",
        "box 1 -", "box 1 -3", "box 1 2", "box 0 -9 9", "box 0 -9 9;box 1 -9", "letters 3;box 0 -9 9;box 1 -9 1;",
        "letters 3;box 0 -9 9;box 1 -9 6;letters", "letters 4;box 0 0 7;box 1 0 7;box 2 0 7;box 3 -1", "row",
        "tie -", "band 1", "comb 1 -", "off 1 2", "least 1 2 bound", "row 1 2 bound -", "row 1 2 bound 7",
        "row 1 2 within", "row 1 2 bound 3 within", "row 1 2 bound -3 within 4", "row 1 2 within 5", "letters 1;row",
        "letters 4;tie 1 2 3", "letters 4;tie 1 2 3 4;letters", "row 1 2;row 1 2;row 1 2;row 1 2;row 1 2;row 1 2;row 1 2;",
        "row 1 2;row 1 2;row 1 2;row 1 2;row 1 2;row 1 2;row 1 2;row 1 2", "row 1 2;row 1 2;row 1 2;row 1 2;row 1 2;"
            + "row 1 2;row 1 2;row 1 2;"};
    private static final String[] TOKENS = {"", "letters", "box", "row", "tie", "band", "comb", "off", "least", "bound",
        "within", "rows", "ro", "a", "z", ";", "-", "0", "1", "2", "3", "4", "5", "7", "8", "9", "10", "09", "99", "100",
        "999", "1000", "0999", "00000000001", "`", "{", "/", ":", "R", "\t", "\n", "\0", "\u0080", "\u00ff", ","};

    public static void main(String[] args) {
        for (String part : PARTS) {
            for (String one : TOKENS) {
                for (String other : TOKENS) {
                    for (int blanks = 0; blanks < 4; blanks++) {
                        tell(part + (blanks % 2 == 1 ? " " : "") + one + (blanks > 1 ? " " : "") + other);
                    }
                }
            }
        }
        Checks.end();
    }

    private static void tell(String text) {
        ThinBodies x = new ThinBodies();
        Oracle o = new Oracle();
        for (int i = 0; i < text.length(); i++) {
            o.feed(text.charAt(i), 1);
        }
        Checks.feed(x, text);
        Checks.due("37 length of " + text, x.count(3), text.length());
        Checks.due("37 " + text, x.text(), o.text());
        for (int what = 0; what < 4; what++) {
            Checks.due("37 count behind " + text, x.count(what), o.count(what));
        }
        for (int i = 0; i < o.count(0); i++) {
            Checks.due("37 low behind " + text, x.boxOf(i, 0), o.boxOf(i, 0));
            Checks.due("37 high behind " + text, x.boxOf(i, 1), o.boxOf(i, 1));
        }
        int last = o.count(1) - 1;
        for (int what = 0; what < 7 && last >= 0; what++) {
            Checks.due("37 row behind " + text, x.of(last, what), o.of(last, what));
        }
        Checks.due("37 no finding behind " + text, x.status(-1), 0);
    }
}
