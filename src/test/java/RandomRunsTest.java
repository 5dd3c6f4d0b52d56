import java.util.Random;

/** Runs of 512 random calls, the same each time, held against the model; no call may throw. */
public final class RandomRunsTest {
    private static final Check CHECK = new Check("RandomRunsTest");
    private static final int RUNS = 600;
    private static final int CALLS = 512;
    private static final int[] FAR = {-1, Integer.MIN_VALUE, Integer.MAX_VALUE, 1000, -9, 1 << 16, 64};
    private static final long[] SEEDS = {0, 1, -1, Long.MIN_VALUE, Long.MAX_VALUE};

    private final Random random;
    private final TeethForCoins real = new TeethForCoins();
    private final Model model = new Model();
    private final StringBuilder calls = new StringBuilder();

    private RandomRunsTest(long seed) {
        random = new Random(seed);
    }

    public static void main(String[] args) {
        for (int run = 0; run < RUNS; run++) {
            new RandomRunsTest(run).run();
        }
        CHECK.end();
    }

    private void run() {
        if (random.nextInt(5) > 0) {
            tellMarket();
        }
        int count = 0;
        while (count < CALLS) {
            count += random.nextInt(40) == 0 ? tellMarket() : call();
        }
    }

    private int in(int from, int to) {
        return random.nextInt(25) == 0 ? FAR[random.nextInt(FAR.length)] : from + random.nextInt(to - from + 1);
    }

    private long seed() {
        return random.nextInt(6) == 0 ? SEEDS[random.nextInt(SEEDS.length)] : random.nextLong();
    }

    private boolean coin() {
        return random.nextBoolean();
    }

    private boolean due(String call, long got, long want) {
        calls.append(' ').append(call);
        if (got != want) {
            CHECK.due("after" + calls, got, want);
            throw new IllegalStateException("the run is told above");
        }
        CHECK.due(call, got, want);
        return true;
    }

    private int tellMarket() {
        due("wipe()", real.wipe(), model.wipe());
        StringBuilder text = new StringBuilder();
        text.append('L').append(random.nextInt(10)).append(1 + random.nextInt(coin() ? 3 : 9));
        int parts = random.nextInt(16);
        int people = 1 + random.nextInt(4);
        int worn = coin() ? 1 : 10;
        for (int i = 0; i < parts; i++) {
            if (random.nextInt(4) > 0) {
                text.append(random.nextInt(4) > 0 ? 'T' : 'B').append(1 + random.nextInt(9));
                text.append(coin() ? 'L' : 'R').append(random.nextInt(worn)).append(random.nextInt(people));
            } else {
                text.append('G').append(random.nextInt(10)).append(random.nextInt(10)).append(random.nextInt(10));
            }
        }
        if (random.nextInt(5) == 0) {
            int place = random.nextInt(text.length());
            text.setCharAt(place, coin() ? (char) random.nextInt(256) : "LTBGR0149".charAt(random.nextInt(9)));
        }
        if (random.nextInt(6) == 0) {
            text.setLength(random.nextInt(text.length() + 1));
        }
        int count = 3;
        for (int from = 0; from < text.length(); count++) {
            int n = Math.min(1 + random.nextInt(8), text.length() - from);
            long v = random.nextLong();
            for (int i = 0; i < n; i++) {
                v = v << 8 | text.charAt(from + i);
            }
            due("write(" + n + ", " + v + "L)", real.write(n, v), model.write(n, v));
            from += n;
        }
        due("fault()", real.fault(), model.fault());
        due("market()", real.market(), model.market());
        return count;
    }

    private int call() {
        int kind = random.nextInt(5);
        boolean done = kind == 0 ? ofMarket() : kind == 1 ? ofPayments() : kind == 2 ? ofTeeth()
            : kind == 3 ? ofMonies() : ofTheftAndSlots();
        return done ? 1 : 0;
    }

    private boolean ofMarket() {
        int a = in(0, 10);
        int b = in(0, 6);
        long v = seed();
        switch (random.nextInt(10)) {
            case 0: return due("about(" + b + ")", real.about(b), model.about(b));
            case 1: return due("tooth(" + a + "," + b + ")", real.tooth(a, b), model.tooth(a, b));
            case 2: return due("good(" + b + "," + (a & 1) + ")", real.good(b, a & 1), model.good(b, a & 1));
            case 3: return due("good(" + a + "," + b + ")", real.good(a, b), model.good(a, b));
            case 4: return due("purse(" + b + ")", real.purse(b), model.purse(b));
            case 5:
            case 6: return due("handle(" + a + ")", real.handle(a), model.handle(a));
            case 7: return due("bite(" + a + ")", real.bite(a), model.bite(a));
            case 8: return due("write(" + b + "," + v + "L)", real.write(b, v), model.write(b, v));
            default: return due("fault()", real.fault(), model.fault());
        }
    }

    private boolean ofPayments() {
        int a = in(0, 3);
        int b = in(0, 3);
        int price = somePrice();
        boolean set = coin();
        String of = "(" + a + "," + b + "," + price + ")";
        switch (random.nextInt(10)) {
            case 0: return due("fewest" + of, real.fewest(a, b, price), model.fewest(a, b, price));
            case 1: return due("paid" + of + set, real.paid(a, b, price, set), model.paid(a, b, price, set));
            case 2:
            case 3:
            case 4: return due("pay" + of, real.pay(a, b, price), model.pay(a, b, price));
            case 5: return due("undo()", real.undo(), model.undo());
            case 6:
            case 7: return due("tooMuch" + of + set, real.tooMuch(a, price, set), model.tooMuch(a, price, set));
            case 8: return due("sums" + of, real.sums(a, b, price), model.sums(a, b, price));
            default: return due("spent" + of + set, real.spent(a, set), model.spent(a, set));
        }
    }

    /** Prices that can be paid are rare among all: mostly what some TEETH are worth, less others. */
    private int somePrice() {
        int price = 0;
        for (int i = random.nextInt(4); i > 0; i--) {
            price += Math.max(0, model.tooth(random.nextInt(10), 4)) * (random.nextInt(3) > 0 ? 1 : -1);
        }
        return random.nextInt(3) == 0 ? in(0, 999) : price;
    }

    private boolean ofTeeth() {
        int a = in(0, 10);
        int m = random.nextInt(3) == 0 ? in(0, 999) : in(1, 90);
        long seed = seed();
        switch (random.nextInt(6)) {
            case 0: return due("caught(" + a % 5 + "," + seed + "L)", real.caught(a % 5, seed), model.caught(a % 5, seed));
            case 1: return due("washed(" + a + "," + seed + "L)", real.washed(a, seed), model.washed(a, seed));
            case 2: return due("life(" + a + "," + m + ")", real.life(a, m), model.life(a, m));
            case 3:
                int i = in(0, 9);
                return due("trace(" + a + "," + i + ")", real.trace(a, i), model.trace(a, i));
            default:
                int z = in(0, 10000);
                return due("inflated(" + a % 6 + "," + z + ")", real.inflated(a % 6, z), model.inflated(a % 6, z));
        }
    }

    private boolean ofMonies() {
        int a = in(0, 10);
        int b = in(0, 10);
        int c = in(0, 10);
        int n = in(0, 7);
        int k = in(0, 6);
        boolean upper = coin();
        switch (random.nextInt(6)) {
            case 0: return due("doubt(" + a + "," + b + "," + c + "," + n + "," + k + ")" + upper,
                real.doubt(a, b, c, n, k, upper), Model.doubt(a, b, c, n, k, upper));
            case 1: return due("among(" + a + "," + b + "," + c + ")" + upper,
                real.among(a, b, c, upper), Model.among(a, b, c, upper));
            case 2: return due("ring " + upper, real.ring(upper), model.ring(upper));
            case 3: return due("ringAt " + k, real.ringAt(k), model.ringAt(k));
            default:
                int money = in(0, 3);
                int other = in(0, 3);
                int most = coin() ? 4 : 100;
                int up = in(1, most);
                int down = in(1, most);
                return due("rate(" + money + "," + other + "," + up + "," + down + ")",
                    real.rate(money, other, up, down), model.rate(money, other, up, down));
        }
    }

    private boolean ofTheftAndSlots() {
        int a = in(0, 10);
        int w = random.nextInt(4) == 0 ? in(0, 100) : in(0, 6);
        int slot = in(0, 1);
        switch (random.nextInt(10)) {
            case 0:
            case 1:
            case 2: return due("should(" + a + "," + w + ")", real.should(a, w), model.should(a, w));
            case 3:
            case 4: return due("stolen()", real.stolen(), model.stolen());
            case 5:
            case 6: return due("thief()", real.thief(), model.thief());
            case 7: return due("keep(" + slot + ")", real.keep(slot), model.keep(slot));
            default: return due("again(" + slot + ")", real.again(slot), model.again(slot));
        }
    }
}
