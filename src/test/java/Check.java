import java.nio.charset.StandardCharsets;

/** Counts the answers of a test that are as due, and ends its program by that. */
final class Check {
    private final String name;
    private int right = 0;
    private int wrong = 0;

    Check(String name) {
        this.name = name;
    }

    void due(String what, long got, long want) {
        if (got == want) {
            right++;
        } else {
            wrong++;
            System.out.println(name + ": " + what + " answered " + got + ", due is " + want);
        }
    }

    void holds(String what, boolean held) {
        due(what, held ? 1 : 0, 1);
    }

    /** Puts the text's bytes behind what x has already, at most 8 a call. */
    static void tell(TeethForCoins x, String text) {
        byte[] bytes = text.getBytes(StandardCharsets.ISO_8859_1);
        for (int from = 0; from < bytes.length; from += 8) {
            int n = Math.min(8, bytes.length - from);
            long v = 0;
            for (int i = 0; i < n; i++) {
                v = v << 8 | bytes[from + i] & 255;
            }
            x.write(n, v);
        }
    }

    /** A new object whose MARKET is this text. */
    static TeethForCoins market(String text) {
        TeethForCoins x = new TeethForCoins();
        tell(x, text);
        if (x.market() < 0) {
            throw new IllegalStateException("no market: " + text);
        }
        return x;
    }

    void end() {
        System.out.println(name + ": " + right + " answers as due, " + wrong + " not");
        if (wrong > 0 || right == 0) {
            System.exit(1);
        }
    }
}
