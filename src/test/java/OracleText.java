import java.math.BigInteger;
import java.util.ArrayList;
import java.util.List;
import java.util.regex.Matcher;
import java.util.regex.Pattern;

/** A text's tokens, parted by a pattern, for the oracle. */
final class OracleText {
    private static final Pattern TOKEN = Pattern.compile(" *([a-z]+|[0-9]+|[;-]|[^ ])", Pattern.DOTALL);

    private final List<String> tokens = new ArrayList<>();
    private final List<Integer> places = new ArrayList<>();
    private int at = 0;
    private int value = 0;

    OracleText(String tape) {
        Matcher m = TOKEN.matcher(tape);
        while (m.find()) {
            tokens.add(m.group(1));
            places.add(m.start(1));
        }
        tokens.add("");
        places.add(tape.length());
    }

    int place() {
        return places.get(at);
    }

    int value() {
        return value;
    }

    boolean atEnd() {
        return tokens.get(at).isEmpty();
    }

    boolean next() {
        at++;
        return true;
    }

    /** Goes over the token, if it is this one. */
    boolean take(String token) {
        return tokens.get(at).equals(token) && next();
    }

    /** Whether a number from least to most comes, perhaps behind a -, which is gone over. */
    boolean sees(boolean signed, int least, int most) {
        boolean minus = signed && take("-");
        if (!tokens.get(at).matches("[0-9]+")) {
            return false;
        }
        BigInteger number = new BigInteger(tokens.get(at));
        if (number.compareTo(BigInteger.valueOf(999)) > 0) {
            return false;
        }
        value = minus ? -number.intValue() : number.intValue();
        return value >= least && value <= most;
    }
}
