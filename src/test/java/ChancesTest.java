/** Promises 24 and 25 for all arguments there are, and one beyond each, held against the model. */
public final class ChancesTest {
    private static final Check CHECK = new Check("ChancesTest");

    public static void main(String[] args) {
        TeethForCoins x = new TeethForCoins();
        for (int f = -1; f <= 11; f++) {
            for (int n = -1; n <= 11; n++) {
                for (int k = -1; k <= n + 1; k++) {
                    among(x, n, f, k, true);
                    among(x, n, f, k, false);
                }
            }
            for (int g = -1; g <= 11; g++) {
                for (int h = -1; h <= 11; h++) {
                    doubts(x, f, g, h);
                }
            }
        }
        CHECK.end();
    }

    private static void doubts(TeethForCoins x, int f, int g, int h) {
        for (int n = 0; n <= 7; n++) {
            for (int k = -1; k <= n + 1; k++) {
                doubt(x, new int[] {f, g, h, n, k}, true);
                doubt(x, new int[] {f, g, h, n, k}, false);
            }
        }
    }

    private static void doubt(TeethForCoins x, int[] of, boolean upper) {
        CHECK.due("24 doubt of " + of[0] + " " + of[1] + " " + of[2] + " " + of[3] + " " + of[4] + " " + upper,
            x.doubt(of[0], of[1], of[2], of[3], of[4], upper),
            Model.doubt(of[0], of[1], of[2], of[3], of[4], upper));
    }

    private static void among(TeethForCoins x, int n, int f, int k, boolean upper) {
        CHECK.due("25 among " + n + " " + f + " " + k + " " + upper, x.among(n, f, k, upper),
            Model.among(n, f, k, upper));
    }
}
