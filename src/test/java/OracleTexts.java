import java.util.Random;

/** Texts by chance: most are good ones, with a token that is changed, lost or put in now and then. */
final class OracleTexts {
    private static final String[] ODD = {"letters", "box", "row", "tie", "least", "bound", "within", ";", "-", "0", "10", "999",
        "1000", "x", ".", "boxes", "7", "100", "4"};

    private final Random chance;
    private final StringBuilder text = new StringBuilder();

    OracleTexts(Random chance) {
        this.chance = chance;
    }

    String text(int letters) {
        int n = letters;
        int items = 1 + chance.nextInt(4);
        for (int i = 0; i < items; i++) {
            if (i > 0) {
                put(";");
            }
            n = item(n);
        }
        if (chance.nextInt(30) == 0) {
            put(";");
        }
        return text.toString();
    }

    private void put(String token) {
        int kind = chance.nextInt(100);
        if (kind == 0) {
            return;
        }
        if (kind == 1) {
            plain(ODD[chance.nextInt(ODD.length)]);
        }
        plain(kind == 2 ? ODD[chance.nextInt(ODD.length)] : token);
    }

    /** Blanks come where they must, and often where they need not. */
    private void plain(String token) {
        int length = text.length();
        boolean word = Character.isLetter(token.charAt(0));
        boolean glued = length > 0 && (word ? Character.isLetter(text.charAt(length - 1))
            : Character.isDigit(token.charAt(0)) && Character.isDigit(text.charAt(length - 1)));
        if (glued && chance.nextInt(80) != 0 || chance.nextInt(6) == 0) {
            text.append(' ');
        }
        text.append(token);
    }

    private void number(int v) {
        if (v < 0) {
            put("-");
        }
        put(String.valueOf(Math.abs(v)));
    }

    private int item(int n) {
        int kind = chance.nextInt(8);
        if (kind == 0) {
            int to = 1 + chance.nextInt(4);
            put("letters");
            put(String.valueOf(to));
            return to;
        }
        if (kind == 1) {
            int low = chance.nextInt(16) - 9;
            put("box");
            number(chance.nextInt(n));
            number(low);
            number(low + chance.nextInt(4));
            return n;
        }
        put(new String[] {"row", "tie", "band", "comb", "off", "least"}[kind - 2]);
        for (int i = 0; i < n; i++) {
            number(chance.nextInt(5) - 2);
        }
        if (chance.nextBoolean()) {
            put("bound");
            number(chance.nextInt(21) - 10);
        }
        if (chance.nextBoolean()) {
            put("within");
            number(1 + chance.nextInt(9));
        }
        return n;
    }
}
