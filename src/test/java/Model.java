import java.math.BigInteger;
import java.util.ArrayList;
import java.util.Arrays;
import java.util.Comparator;
import java.util.HashMap;
import java.util.HashSet;
import java.util.List;
import java.util.Map;
import java.util.Set;
import java.util.regex.Matcher;
import java.util.regex.Pattern;

/** The document once more, slow and by other ways than the program's, to hold random runs against. */
final class Model {
    private static final Pattern PARTS =
        Pattern.compile("L[0-9][1-9]([TB][1-9][LR][0-9][0-3]|G(0[1-9]|[1-9][0-9])[0-9])*");
    private static final BigInteger ROOM = BigInteger.ONE.shiftLeft(64);

    private record Tooth(int size, boolean left, int wear, boolean fake, int due, List<Integer> owners) {
        int owner() {
            return owners.get(owners.size() - 1);
        }

        Tooth withDue(int newDue) {
            return new Tooth(size, left, wear, fake, newDue, owners);
        }

        Tooth handled() {
            return new Tooth(size, left, wear == 99 ? 99 : wear + 1, fake, due, owners);
        }

        Tooth bitten() {
            return new Tooth(size - 1, left, 0, fake, due, owners);
        }

        Tooth to(int owner) {
            List<Integer> all = new ArrayList<>(owners);
            all.add(owner);
            return new Tooth(size, left, wear, fake, due, all);
        }
    }

    private record Rate(int a, int b) { }

    private record State(List<Tooth> teeth, List<List<Tooth>> bargains, Map<List<Integer>, Rate> rates) { }

    private record Payment(int paid, int change) {
        int teeth() {
            return Integer.bitCount(paid) + Integer.bitCount(change);
        }
    }

    private record Ring(List<Integer> monies, BigInteger above, BigInteger below) { }

    private String text = "";
    private int loss = 1;
    private int times = 1;
    private List<int[]> goods = new ArrayList<>();
    private List<Tooth> teeth = new ArrayList<>();
    private List<List<Tooth>> bargains = new ArrayList<>();
    private Map<List<Integer>, Rate> rates = new HashMap<>();
    private final State[] slots = new State[2];

    int write(int n, long v) {
        if (n < 1 || n > 8) {
            return -2;
        }
        if (text.length() + n > 72) {
            return -4;
        }
        String hex = String.format("%016x", v);
        for (int i = 16 - 2 * n; i < 16; i += 2) {
            text += (char) Integer.parseInt(hex.substring(i, i + 2), 16);
        }
        return text.length();
    }

    int wipe() {
        int was = text.length();
        text = "";
        return was;
    }

    private static boolean canBeOne(String start) {
        Matcher matcher = PARTS.matcher(start);
        if (!matcher.matches() && !matcher.hitEnd()) {
            return false;
        }
        int heads = start.replaceAll("[^TBG]", "").length();
        int ofGoods = start.replaceAll("[^G]", "").length();
        return heads - ofGoods <= 10 && ofGoods <= 4;
    }

    int fault() {
        for (int i = 1; i <= text.length(); i++) {
            if (!canBeOne(text.substring(0, i))) {
                return i - 1;
            }
        }
        return PARTS.matcher(text).matches() ? -9 : text.length();
    }

    int market() {
        if (fault() != -9) {
            return -3;
        }
        loss = text.charAt(1) - '0';
        times = text.charAt(2) - '0';
        teeth = new ArrayList<>();
        goods = new ArrayList<>();
        bargains = new ArrayList<>();
        Matcher part = Pattern.compile("([TB])(.)(.)(.)(.)|G(..)(.)").matcher(text.substring(3));
        while (part.find()) {
            if (part.group(1) == null) {
                goods.add(new int[] {Integer.parseInt(part.group(6)), Integer.parseInt(part.group(7))});
            } else {
                int wear = Integer.parseInt(part.group(4));
                teeth.add(new Tooth(Integer.parseInt(part.group(2)), part.group(3).equals("L"), wear,
                    part.group(1).equals("B"), wear, List.of(Integer.parseInt(part.group(5)))));
            }
        }
        return teeth.size();
    }

    int about(int what) {
        int fakes = (int) teeth.stream().filter(Tooth::fake).count();
        int[] all = {teeth.size(), goods.size(), loss, times, bargains.size(), text.length(), fakes};
        return what < 0 || what >= all.length ? -2 : all[what];
    }

    private int worth(Tooth tooth) {
        int plain = 10 * tooth.size() - loss * tooth.wear();
        return plain <= 0 ? 0 : tooth.left() ? times * plain : plain;
    }

    private boolean none(List<?> row, int i) {
        return i < 0 || i >= row.size();
    }

    private boolean noOne(int person) {
        return person < 0 || person > 3;
    }

    int tooth(int tooth, int what) {
        if (none(teeth, tooth)) {
            return -1;
        }
        Tooth it = teeth.get(tooth);
        int[] all = {it.size(), it.left() ? 1 : 0, it.wear(), it.owner(), worth(it), it.fake() ? 1 : 0};
        return what < 0 || what >= all.length ? -2 : all[what];
    }

    int good(int good, int what) {
        if (none(goods, good)) {
            return -1;
        }
        return what < 0 || what > 1 ? -2 : goods.get(good)[what];
    }

    int purse(int person) {
        return noOne(person) ? -1 : teeth.stream().filter(t -> t.owner() == person).mapToInt(this::worth).sum();
    }

    int handle(int tooth) {
        if (none(teeth, tooth)) {
            return -1;
        }
        teeth.set(tooth, teeth.get(tooth).handled());
        return worth(teeth.get(tooth));
    }

    int bite(int tooth) {
        if (none(teeth, tooth)) {
            return -1;
        }
        if (teeth.get(tooth).size() == 1) {
            return -3;
        }
        teeth.set(tooth, teeth.get(tooth).bitten());
        return worth(teeth.get(tooth));
    }

    /** Every set of one's TEETH, and what it is worth. */
    private Map<Integer, Integer> sets(int person) {
        Map<Integer, Integer> sets = new HashMap<>();
        sets.put(0, 0);
        for (int i = 0; i < teeth.size(); i++) {
            if (teeth.get(i).owner() == person) {
                for (Map.Entry<Integer, Integer> set : new ArrayList<>(sets.entrySet())) {
                    sets.put(set.getKey() + (1 << i), set.getValue() + worth(teeth.get(i)));
                }
            }
        }
        return sets;
    }

    private int refusal(int person, int other, boolean bad) {
        return noOne(person) || noOne(other) ? -1 : person == other || bad ? -2 : 0;
    }

    private Payment best(int person, int other, int price) {
        List<Payment> all = new ArrayList<>();
        sets(person).forEach((paid, worth) -> sets(other).forEach((change, less) -> {
            if (worth - less == price) {
                all.add(new Payment(paid, change));
            }
        }));
        return all.stream().min(Comparator.comparingInt(Payment::teeth)
            .thenComparingInt(Payment::paid).thenComparingInt(Payment::change)).orElse(null);
    }

    int fewest(int person, int other, int price) {
        int refusal = refusal(person, other, price < 0 || price > 999);
        if (refusal != 0) {
            return refusal;
        }
        Payment best = best(person, other, price);
        return best == null ? -9 : best.teeth();
    }

    int paid(int person, int other, int price, boolean change) {
        int refusal = refusal(person, other, price < 0 || price > 999);
        if (refusal != 0) {
            return refusal;
        }
        Payment best = best(person, other, price);
        return best == null ? -9 : change ? best.change() : best.paid();
    }

    int pay(int person, int other, int price) {
        int refusal = refusal(person, other, price < 0 || price > 999);
        if (refusal != 0) {
            return refusal;
        }
        Payment best = best(person, other, price);
        if (best == null) {
            return -3;
        }
        if (bargains.size() == 8) {
            return -4;
        }
        bargains.add(new ArrayList<>(teeth));
        for (int i = 0; i < teeth.size(); i++) {
            if ((best.paid() & 1 << i) != 0) {
                teeth.set(i, teeth.get(i).handled().to(other));
            }
            if ((best.change() & 1 << i) != 0) {
                teeth.set(i, teeth.get(i).handled().to(person));
            }
        }
        return best.teeth();
    }

    int undo() {
        if (bargains.isEmpty()) {
            return -3;
        }
        List<Tooth> ahead = bargains.remove(bargains.size() - 1);
        for (int i = 0; i < ahead.size(); i++) {
            teeth.set(i, ahead.get(i).withDue(teeth.get(i).due()));
        }
        return bargains.size();
    }

    int tooMuch(int person, int price, boolean set) {
        if (noOne(person)) {
            return -1;
        }
        if (price < 0 || price > 999) {
            return -2;
        }
        Map<Integer, Integer> sets = sets(person);
        int least = sets.keySet().stream().filter(s -> sets.get(s) >= price)
            .min(Comparator.<Integer>comparingInt(sets::get).thenComparingInt(Integer::bitCount)
                .thenComparingInt(s -> s)).orElse(-9);
        return least == -9 || set ? least : sets.get(least);
    }

    int sums(int person, int other, int n) {
        int refusal = refusal(person, other, n < 1 || n > 999);
        if (refusal != 0) {
            return refusal;
        }
        Set<Integer> prices = new HashSet<>();
        Set<Integer> backs = new HashSet<>(sets(other).values());
        for (int worth : sets(person).values()) {
            backs.forEach(less -> prices.add(worth - less));
        }
        return (int) prices.stream().filter(price -> price >= 1 && price <= n).count();
    }

    int spent(int person, boolean set) {
        if (noOne(person)) {
            return -1;
        }
        int bestUse = -1;
        int bestPrice = 0;
        int best = 0;
        for (int bought = 0; bought < 16; bought++) {
            int use = 0;
            int price = 0;
            for (int i = 0; i < 4; i++) {
                if ((bought & 1 << i) != 0) {
                    use += i < goods.size() ? goods.get(i)[1] : -1000;
                    price += i < goods.size() ? goods.get(i)[0] : 0;
                }
            }
            if (price <= purse(person) && (use > bestUse || use == bestUse && price < bestPrice)) {
                bestUse = use;
                bestPrice = price;
                best = bought;
            }
        }
        return set ? best : bestUse;
    }

    private static BigInteger next(BigInteger seed) {
        return seed.multiply(new BigInteger("6364136223846793005"))
            .add(new BigInteger("1442695040888963407")).mod(ROOM);
    }

    private void comes(int person, BigInteger x) {
        long upper = x.shiftRight(33).longValueExact();
        teeth.add(new Tooth((int) (upper % 9 + 1), upper / 9 % 2 == 0, 0, false, 0, List.of(person)));
    }

    int caught(int person, long seed) {
        if (noOne(person)) {
            return -1;
        }
        if (teeth.size() == 10) {
            return -4;
        }
        comes(person, next(BigInteger.valueOf(seed)));
        return teeth.size() - 1;
    }

    int washed(int n, long seed) {
        if (n < 1 || n > 10) {
            return -2;
        }
        if (teeth.size() + n > 10) {
            return -4;
        }
        BigInteger x = BigInteger.valueOf(seed);
        for (int i = 0; i < n; i++) {
            x = next(x);
            comes(i & 3, x);
        }
        return teeth.size();
    }

    int life(int tooth, int m) {
        if (none(teeth, tooth)) {
            return -1;
        }
        if (m < 1 || m > 999) {
            return -2;
        }
        int times = 0;
        for (Tooth it = teeth.get(tooth); worth(it) >= m; it = it.handled()) {
            if (times == 999) {
                return 999;
            }
            times++;
        }
        return times == 0 ? -9 : times - 1;
    }

    int trace(int tooth, int i) {
        if (none(teeth, tooth)) {
            return -1;
        }
        List<Integer> owners = teeth.get(tooth).owners();
        return none(owners, i) || i > 7 ? -9 : owners.get(i);
    }

    int inflated(int good, int z) {
        if (none(goods, good)) {
            return -1;
        }
        if (z < 0 || z > 9999) {
            return -2;
        }
        int all = purse(0) + purse(1) + purse(2) + purse(3);
        return all == 0 ? -3 : (int) ((long) goods.get(good)[0] * (all + z) / all);
    }

    private static long told(BigInteger above, BigInteger below, boolean upper) {
        BigInteger common = above.gcd(below);
        return (upper ? above : below).divide(common).longValueExact();
    }

    private static boolean noTenths(int f) {
        return f < 0 || f > 10;
    }

    /** How likely k of n are, each by f tenths, in parts of 10 to the n. */
    private static BigInteger just(int n, int f, int k) {
        if (n == 0) {
            return k == 0 ? BigInteger.ONE : BigInteger.ZERO;
        }
        if (k < 0 || k > n) {
            return BigInteger.ZERO;
        }
        return just(n - 1, f, k - 1).multiply(BigInteger.valueOf(f))
            .add(just(n - 1, f, k).multiply(BigInteger.valueOf(10 - f)));
    }

    static long doubt(int f, int g, int h, int n, int k, boolean upper) {
        if (noTenths(f) || noTenths(g) || noTenths(h) || n < 1 || n > 6 || k < 0 || k > n) {
            return -2;
        }
        BigInteger fake = just(n, g, k).multiply(BigInteger.valueOf(f));
        BigInteger all = fake.add(just(n, h, k).multiply(BigInteger.valueOf(10 - f)));
        return all.signum() == 0 ? -3 : told(fake, all, upper);
    }

    static long among(int n, int f, int k, boolean upper) {
        if (n < 1 || n > 10 || noTenths(f) || k < 0 || k > n) {
            return -2;
        }
        BigInteger all = BigInteger.ZERO;
        for (int fakes = k; fakes <= n; fakes++) {
            all = all.add(just(n, f, fakes));
        }
        return told(all, BigInteger.TEN.pow(n), upper);
    }

    private Rate rateOf(int money, int other) {
        return rates.getOrDefault(Arrays.asList(money, other), new Rate(1, 1));
    }

    int rate(int money, int other, int a, int b) {
        if (noOne(money) || noOne(other)) {
            return -1;
        }
        if (money == other || a < 1 || a > 99 || b < 1 || b > 99) {
            return -2;
        }
        Rate was = rateOf(money, other);
        rates.put(Arrays.asList(money, other), new Rate(a, b));
        return 100 * was.a() + was.b();
    }

    private void rings(List<Integer> monies, List<Ring> all) {
        if (monies.size() >= 2) {
            BigInteger above = BigInteger.ONE;
            BigInteger below = BigInteger.ONE;
            for (int i = 0; i < monies.size(); i++) {
                Rate rate = rateOf(monies.get(i), monies.get((i + 1) % monies.size()));
                above = above.multiply(BigInteger.valueOf(rate.a()));
                below = below.multiply(BigInteger.valueOf(rate.b()));
            }
            all.add(new Ring(monies, above, below));
        }
        for (int next = 0; next < 4; next++) {
            if (!monies.contains(next) && (monies.isEmpty() || next > monies.get(0))) {
                List<Integer> longer = new ArrayList<>(monies);
                longer.add(next);
                rings(longer, all);
            }
        }
    }

    private Ring bestRing() {
        List<Ring> all = new ArrayList<>();
        rings(List.of(), all);
        Comparator<Ring> byGain = (one, two) ->
            one.above().multiply(two.below()).compareTo(two.above().multiply(one.below()));
        return all.stream().min(byGain.reversed().thenComparing(ring -> ring.monies().size())
            .thenComparing(ring -> ring.monies().toString())).orElseThrow();
    }

    long ring(boolean upper) {
        Ring best = bestRing();
        return told(best.above(), best.below(), upper);
    }

    int ringAt(int i) {
        List<Integer> monies = bestRing().monies();
        return none(monies, i) ? -9 : monies.get(i);
    }

    int should(int tooth, int w) {
        if (none(teeth, tooth)) {
            return -1;
        }
        if (w < 0 || w > 99) {
            return -2;
        }
        int was = teeth.get(tooth).due();
        teeth.set(tooth, teeth.get(tooth).withDue(w));
        return was;
    }

    int stolen() {
        int set = 0;
        for (int i = 0; i < teeth.size(); i++) {
            set += teeth.get(i).wear() > teeth.get(i).due() ? 1 << i : 0;
        }
        return set;
    }

    int thief() {
        if (stolen() == 0) {
            return -9;
        }
        int[] worn = new int[4];
        teeth.forEach(it -> worn[it.owner()] += it.wear() > it.due() ? it.wear() - it.due() : 0);
        int thief = 3;
        for (int person = 2; person >= 0; person--) {
            thief = worn[person] >= worn[thief] ? person : thief;
        }
        return thief;
    }

    private static State copy(State state) {
        List<List<Tooth>> bargains = new ArrayList<>();
        state.bargains().forEach(ahead -> bargains.add(new ArrayList<>(ahead)));
        return new State(new ArrayList<>(state.teeth()), bargains, new HashMap<>(state.rates()));
    }

    int keep(int slot) {
        if (slot < 0 || slot > 1) {
            return -1;
        }
        slots[slot] = copy(new State(teeth, bargains, rates));
        return teeth.size();
    }

    int again(int slot) {
        if (slot < 0 || slot > 1) {
            return -1;
        }
        if (slots[slot] == null) {
            return -3;
        }
        State kept = copy(slots[slot]);
        teeth = kept.teeth();
        bargains = kept.bargains();
        rates = kept.rates();
        return teeth.size();
    }
}
