import java.lang.reflect.InvocationTargetException;
import java.lang.reflect.Method;
import java.util.Arrays;

/**
 * All promises that take numbers: each call with all numbers that lie at an edge of the document,
 * just beside one, or far off, in all ways together, against the oracle; in bodies with one to four
 * letters, with nothing there, with something and with all full.
 */
public final class EdgesTest {
    /** An object is used for 512 calls; growing it and looking at it takes some of them. */
    private static final int CALLS = 260;

    private static final int[] ALL = {Integer.MIN_VALUE, Integer.MIN_VALUE + 1, -1000000002, -1000000001, -1000000000,
        -1000, -999, -100, -99, -41, -40, -10, -9, -8, -6, -5, -4, -3, -2, -1, 0, 1, 2, 3, 4, 5, 6, 7, 8, 9, 10, 16, 24,
        25, 26, 32, 39, 40, 41, 64, 65, 98, 99, 100, 119, 120, 121, 124, 125, 255, 256, 624, 625, 626, 998, 999, 1000,
        4095, 4096, 4097, 65535, 65536, Integer.MAX_VALUE - 1, Integer.MAX_VALUE};
    private static final int[] SOME = {Integer.MIN_VALUE, -1000, -999, -10, -9, -5, -4, -3, -2, -1, 0, 1, 2, 3, 4, 5, 6,
        7, 8, 9, 10, 39, 40, 41, 64, 99, 100, 999, 1000, Integer.MAX_VALUE};
    private static final int[] FEW = {Integer.MIN_VALUE, -1, 0, 1, 3, 4, 5, 40, 41, Integer.MAX_VALUE};

    private ThinBodies x;
    private Oracle o;
    private int calls = CALLS;
    private final int kind;
    private final StringBuilder said = new StringBuilder();

    private EdgesTest(int kind) {
        this.kind = kind;
    }

    public static void main(String[] args) throws ReflectiveOperationException {
        for (int kind = 0; kind < 6; kind++) {
            for (Method on : ThinBodies.class.getDeclaredMethods()) {
                if (java.lang.reflect.Modifier.isPublic(on.getModifiers())) {
                    new EdgesTest(kind).all(on);
                }
            }
        }
        Checks.end();
    }

    private void all(Method on) throws ReflectiveOperationException {
        Method asOracle = Oracle.class.getDeclaredMethod(on.getName(), on.getParameterTypes());
        int many = on.getParameterCount();
        int[] values = many <= 2 ? ALL : many == 3 ? SOME : FEW;
        long ways = 1;
        for (int i = 0; i < many; i++) {
            ways *= values.length;
        }
        for (long way = 0; way < ways; way++) {
            Object[] with = new Object[many];
            long digits = way;
            for (int i = 0; i < many; i++) {
                int v = values[(int) (digits % values.length)];
                digits /= values.length;
                with[i] = on.getParameterTypes()[i] == long.class ? (Object) (long) v : (Object) v;
            }
            one(on, asOracle, with);
        }
        end(on.getName());
    }

    private void one(Method on, Method asOracle, Object[] with) throws ReflectiveOperationException {
        if (calls >= CALLS) {
            end(on.getName());
            grow();
        }
        calls++;
        String call = on.getName() + Arrays.toString(with);
        said.append(' ').append(call);
        long got = told(on, x, with);
        long want = told(asOracle, o, with);
        if (got != want) {
            System.out.println("body " + kind + ":" + said);
        }
        Checks.due(call, got, want);
    }

    private static long told(Method on, Object of, Object[] with) throws ReflectiveOperationException {
        try {
            return ((Number) on.invoke(of, with)).longValue();
        } catch (InvocationTargetException thrown) {
            Checks.fail(on.getName() + Arrays.toString(with) + " threw " + thrown.getCause());
            return Long.MIN_VALUE;
        }
    }

    /** That what came of all these calls is the same, too. */
    private void end(String name) {
        if (x == null) {
            return;
        }
        for (int which = -1; which < 7; which++) {
            Checks.due(name + ": status(" + which + ")", x.status(which), o.status(which));
        }
        for (int what = 0; what < 4; what++) {
            Checks.due(name + ": count(" + what + ")", x.count(what), o.count(what));
        }
        for (int i = 0; i < o.count(0); i++) {
            Checks.due(name + ": boxOf", x.boxOf(i, 0), o.boxOf(i, 0));
            Checks.due(name + ": boxOf", x.boxOf(i, 1), o.boxOf(i, 1));
            Checks.due(name + ": baseOf", x.baseOf(0, i), o.baseOf(0, i));
            Checks.due(name + ": baseOf", x.baseOf(i, 0), o.baseOf(i, 0));
        }
        for (int r = 0; r < o.count(1); r++) {
            for (int what = 0; what < 9; what++) {
                Checks.due(name + ": of(" + r + ", " + what + ")", x.of(r, what), o.of(r, what));
            }
        }
        for (int s = 0; s < 4; s++) {
            Checks.due(name + ": write", x.write(s, 0, 0), o.write(s, 0, 0));
            Checks.due(name + ": write", x.write(s, 39, 0), o.write(s, 39, 0));
        }
        Checks.due(name + ": undo", x.undo(), o.undo());
        Checks.due(name + ": det", x.det(), o.det());
    }

    private void grow() {
        x = new ThinBodies();
        o = new Oracle();
        calls = 0;
        said.setLength(0);
        switch (kind) {
            case 0:
                break;
            case 1:
                tell("letters 1;box 0 -9 9;comb 1 within 4");
                sheets(64);
                break;
            case 2:
                tell("box 0 -1 2;band 1 -2 bound 1 within 3;least 1 1");
                keep();
                sheets(8);
                break;
            case 3:
                tell("letters 3;box 1 1 3;box 2 -2 -2;tie 1 1 1 bound 1");
                sheets(16);
                keep();
                break;
            case 4:
                tell("letters 4;box 0 0 1;box 1 -1 0;box 2 4 4;off 3 1 0 1 bound 2;row 0 0 9 0 bound -1");
                keep();
                sheets(64);
                break;
            default:
                full();
        }
    }

    /** Eight rows, a tape of 120 bytes, four sheets of 40 numbers. */
    private void full() {
        tell("letters 3;box 0 0 2;box 1 -1 1;box 2 2 3");
        for (int r = 0; r < 8; r++) {
            same(x.row(r % 6, r - 1, 1 + r), o.row(r % 6, r - 1, 1 + r));
            same(x.change(r, 3 + r % 3, r - 4), o.change(r, 3 + r % 3, r - 4));
        }
        keep();
        for (int i = 0; i < 30; i++) {
            same(x.feed(0x3b626f78, 4), o.feed(0x3b626f78, 4));
        }
        for (int s = 0; s < 4; s++) {
            int bits = s == 2 ? 16 : 64;
            same(x.sheet(s, bits, 40), o.sheet(s, bits, 40));
            same(x.write(s, s, 1), o.write(s, s, 1));
        }
    }

    private void tell(String text) {
        for (int i = 0; i < text.length(); i++) {
            same(x.feed(text.charAt(i), 1), o.feed(text.charAt(i), 1));
        }
        same(x.text(), o.text());
    }

    private void keep() {
        same(x.image(), o.image());
        same(x.base(0, 0, 2), o.base(0, 0, 2));
        same(x.drop(), o.drop());
    }

    /** A point, what is too short for one, one that is too far off, and none. */
    private void sheets(int bits) {
        int n = o.count(0);
        same(x.sheet(0, bits, n), o.sheet(0, bits, n));
        same(x.lays(0, 0), o.lays(0, 0));
        same(x.sheet(1, bits, n - 1), o.sheet(1, bits, n - 1));
        same(x.sheet(2, 64, 40), o.sheet(2, 64, 40));
        same(x.write(2, n - 1, 1000), o.write(2, n - 1, 1000));
    }

    private void same(long got, long want) {
        Checks.due("body " + kind, got, want);
    }
}
