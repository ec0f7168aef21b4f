/** What the project's tests share: the findings, counting what is not as due, feeding texts. */
final class Checks {
    static final int BEYOND = -1000000001;
    static final int FULL = -1000000002;
    static final int KIND = -1000000003;
    static final int NONE = -1000000004;
    static final int STATE = -1000000005;
    static final int MISSING = -1000000006;
    static final int SIZE = -1000000007;

    private static int asked = 0;
    private static int wrong = 0;

    private Checks() {
    }

    static void due(String call, long got, long want) {
        asked++;
        if (got != want) {
            wrong++;
            System.out.println(call + " answered " + got + ", due is " + want);
        }
    }

    static void fail(String what) {
        asked++;
        wrong++;
        System.out.println(what);
    }

    /** Ends the test: with exit code 1 if anything was not as due. */
    static void end() {
        System.out.println(asked + " answers asked, " + wrong + " not as due");
        if (wrong != 0 || asked == 0) {
            System.exit(1);
        }
    }

    /** Four bytes a call, as an object is used for 512 calls only; a feed that is refused is lost. */
    static void feed(ThinBodies x, String text) {
        for (int i = 0; i < text.length(); i += 4) {
            int n = Math.min(4, text.length() - i);
            int bytes = 0;
            for (int b = 0; b < n; b++) {
                bytes = bytes << 8 | text.charAt(i + b);
            }
            x.feed(bytes, n);
        }
    }

    static int read(ThinBodies x, String text) {
        feed(x, text);
        return x.text();
    }

    /** A new object that has been told a text, which must have no fault. */
    static ThinBodies told(String text) {
        ThinBodies x = new ThinBodies();
        int items = read(x, text);
        if (items < 0) {
            fail("no text: " + text + " (" + items + ")");
        }
        return x;
    }

    static void lay(ThinBodies x, int s, long... numbers) {
        x.sheet(s, 64, numbers.length);
        for (int i = 0; i < numbers.length; i++) {
            x.write(s, i, numbers[i]);
        }
    }
}
