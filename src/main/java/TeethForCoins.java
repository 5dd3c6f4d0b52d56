import java.util.Arrays;

/** Islanders whose money is sharks' teeth: a market told as a text, payments, bargains, fakes, monies, theft. */
public final class TeethForCoins {
    public static final int UNKNOWN = -1, BAD = -2, LATE = -3, FULL = -4, NONE = -9;

    private static final int MOST_BYTES = 72, MOST_TEETH = 10, MOST_GOODS = 4;
    private static final int PEOPLE = 4, MONIES = 4, SLOTS = 2;
    private static final int MOST_SIZE = 9, MOST_WEAR = 99, MOST_PRICE = 999, MOST_EXTRA = 9999;
    private static final int MOST_BARGAINS = 8, MOST_TRACES = 8, MOST_THUMBS = 6, MOST_RATE = 99;
    private static final int FOR_EVER = 999;
    /** Stands where an answer that is no refusal goes on: no refusal of the document is 0. */
    private static final int GRANTED = 0;

    private final Text text = new Text();
    private final Teeth teeth = new Teeth();
    private final Goods goods = new Goods();
    private final Bargains bargains = new Bargains();
    private final Rates rates = new Rates();
    private final Slot[] slots = new Slot[SLOTS];
    private int lossByWear = 1;
    private int timesOfLeft = 1;

    // These rows serve every search anew, so that no call makes an object.
    private final Least least = new Least();
    private final Ring best = new Ring();
    private final int[] balances = new int[1 << MOST_TEETH];
    private final int[] payable = new int[MOST_PRICE + 1];

    public TeethForCoins() {
        for (int slot = 0; slot < slots.length; slot++) {
            slots[slot] = new Slot();
        }
    }

    // ---- the market

    public int write(int n, long v) {
        if (n < 1 || n > 8) {
            return BAD;
        }
        if (text.length + n > MOST_BYTES) {
            return FULL;
        }
        for (int left = n - 1; left >= 0; left--) {
            text.append((byte) (v >>> 8 * left));
        }
        return text.length;
    }

    public int wipe() {
        int was = text.length;
        text.length = 0;
        return was;
    }

    public int fault() {
        return text.faultPlace();
    }

    public int market() {
        if (text.faultPlace() != NONE) {
            return LATE;
        }
        lossByWear = text.figureAt(1);
        timesOfLeft = text.figureAt(2);
        teeth.count = 0;
        goods.count = 0;
        bargains.made = 0;
        for (int at = 3; at < text.length; at += Math.max(1, Text.partLength(text.byteAt(at)))) {
            readPart(at);
        }
        return teeth.count;
    }

    public int about(int what) {
        switch (what) {
            case 0: return teeth.count;
            case 1: return goods.count;
            case 2: return lossByWear;
            case 3: return timesOfLeft;
            case 4: return bargains.made;
            case 5: return text.length;
            case 6: return teeth.fakes();
            default: return BAD;
        }
    }

    public int tooth(int tooth, int what) {
        if (!isTooth(tooth)) {
            return UNKNOWN;
        }
        switch (what) {
            case 0: return teeth.get(tooth, Teeth.SIZE);
            case 1: return teeth.get(tooth, Teeth.LEFT);
            case 2: return teeth.get(tooth, Teeth.WEAR);
            case 3: return teeth.get(tooth, Teeth.OWNER);
            case 4: return worthOf(tooth);
            case 5: return teeth.get(tooth, Teeth.FAKE);
            default: return BAD;
        }
    }

    public int good(int good, int what) {
        if (!isGood(good)) {
            return UNKNOWN;
        }
        switch (what) {
            case 0: return goods.priceOf(good);
            case 1: return goods.useOf(good);
            default: return BAD;
        }
    }

    public int purse(int person) {
        return isPerson(person) ? worthOfSet(teeth.ownedBy(person)) : UNKNOWN;
    }

    public int handle(int tooth) {
        if (!isTooth(tooth)) {
            return UNKNOWN;
        }
        teeth.wearDown(tooth);
        return worthOf(tooth);
    }

    public int bite(int tooth) {
        if (!isTooth(tooth)) {
            return UNKNOWN;
        }
        int size = teeth.get(tooth, Teeth.SIZE);
        if (size <= 1) {
            return LATE;
        }
        teeth.set(tooth, Teeth.SIZE, size - 1);
        teeth.set(tooth, Teeth.WEAR, 0);
        return worthOf(tooth);
    }

    // ---- payments

    public int fewest(int person, int other, int price) {
        int refusal = paymentRefusal(person, other, price);
        if (refusal != GRANTED) {
            return refusal;
        }
        seekFewest(person, other, price);
        return least.found ? least.first : NONE;
    }

    public int paid(int person, int other, int price, boolean change) {
        int refusal = paymentRefusal(person, other, price);
        if (refusal != GRANTED) {
            return refusal;
        }
        seekFewest(person, other, price);
        if (!least.found) {
            return NONE;
        }
        return change ? least.third : least.second;
    }

    public int pay(int person, int other, int price) {
        int refusal = paymentRefusal(person, other, price);
        if (refusal != GRANTED) {
            return refusal;
        }
        seekFewest(person, other, price);
        if (!least.found) {
            return LATE;
        }
        if (bargains.made >= MOST_BARGAINS) {
            return FULL;
        }
        bargains.remember(teeth);
        handOver(least.second, other);
        handOver(least.third, person);
        return least.first;
    }

    public int undo() {
        if (bargains.made < 1) {
            return LATE;
        }
        bargains.takeBack(teeth);
        return bargains.made;
    }

    public int tooMuch(int person, int price, boolean set) {
        if (!isPerson(person)) {
            return UNKNOWN;
        }
        if (!isPrice(price)) {
            return BAD;
        }
        seekTooMuch(teeth.ownedBy(person), price);
        if (!least.found) {
            return NONE;
        }
        return set ? least.third : least.first;
    }

    public int sums(int person, int other, int n) {
        if (!isPerson(person) || !isPerson(other)) {
            return UNKNOWN;
        }
        if (person == other || n < 1 || n > MOST_PRICE) {
            return BAD;
        }
        int theirs = teeth.ownedBy(other);
        int outside = ~(teeth.ownedBy(person) | theirs);
        weighSets(theirs);
        Arrays.fill(payable, 0);
        int found = 0;
        for (int set = 0; set < setsOfTeeth(); set++) {
            int price = balances[set];
            if ((set & outside) == 0 && price >= 1 && price <= n && price < payable.length) {
                found += 1 - payable[price];
                payable[price] = 1;
            }
        }
        return found;
    }

    public int spent(int person, boolean set) {
        if (!isPerson(person)) {
            return UNKNOWN;
        }
        int worth = worthOfSet(teeth.ownedBy(person));
        least.clear();
        for (int bought = 0; bought < 1 << goods.count; bought++) {
            int price = goods.priceOfSet(bought);
            if (price <= worth) {
                least.offer(-goods.useOfSet(bought), price, bought);
            }
        }
        return set ? least.third : -least.first;
    }

    // ---- teeth come, live

    public int caught(int person, long seed) {
        if (!isPerson(person)) {
            return UNKNOWN;
        }
        if (teeth.count >= MOST_TEETH) {
            return FULL;
        }
        addDrawn(person, drawFrom(seed));
        return teeth.count - 1;
    }

    public int washed(int n, long seed) {
        if (n < 1 || n > MOST_TEETH) {
            return BAD;
        }
        if (teeth.count + n > MOST_TEETH) {
            return FULL;
        }
        long drawn = seed;
        for (int i = 0; i < n; i++) {
            drawn = drawFrom(drawn);
            addDrawn(i % PEOPLE, drawn);
        }
        return teeth.count;
    }

    public int life(int tooth, int m) {
        if (!isTooth(tooth)) {
            return UNKNOWN;
        }
        if (m < 1 || m > MOST_PRICE) {
            return BAD;
        }
        int wear = teeth.get(tooth, Teeth.WEAR);
        if (worthWorn(tooth, wear) < m) {
            return NONE;
        }
        for (int more = 1; wear + more <= MOST_WEAR; more++) {
            if (worthWorn(tooth, wear + more) < m) {
                return more - 1;
            }
        }
        // Handling stops wearing it down at the most WEAR, so it keeps what it is worth there.
        return FOR_EVER;
    }

    public int trace(int tooth, int i) {
        return isTooth(tooth) ? teeth.traceOf(tooth, i) : UNKNOWN;
    }

    public int inflated(int good, int z) {
        if (!isGood(good)) {
            return UNKNOWN;
        }
        if (z < 0 || z > MOST_EXTRA) {
            return BAD;
        }
        int worth = worthOfSet(setsOfTeeth() - 1);
        if (worth <= 0) {
            return LATE;
        }
        return goods.priceOf(good) * (worth + z) / worth;
    }

    // ---- fakes, monies, theft

    public long doubt(int f, int g, int h, int n, int k, boolean upper) {
        if (!isTenths(f) || !isTenths(g) || !isTenths(h)) {
            return BAD;
        }
        if (n < 1 || n > MOST_THUMBS || k < 0 || k > n) {
            return BAD;
        }
        // In how many orders the k thumbs may stand is the same for both, so it falls out of the chance.
        long fake = f * power(g, k) * power(10 - g, n - k);
        long real = (10 - f) * power(h, k) * power(10 - h, n - k);
        if (fake + real <= 0) {
            return LATE;
        }
        return ofFraction(fake, fake + real, upper);
    }

    public long among(int n, int f, int k, boolean upper) {
        if (n < 1 || n > MOST_TEETH || !isTenths(f) || k < 0 || k > n) {
            return BAD;
        }
        long ways = 1;
        long chance = 0;
        for (int fakes = 0; fakes <= n; fakes++) {
            if (fakes >= k) {
                chance += ways * power(f, fakes) * power(10 - f, n - fakes);
            }
            ways = ways * (n - fakes) / (fakes + 1);
        }
        return ofFraction(chance, power(10, n), upper);
    }

    public int rate(int money, int other, int a, int b) {
        if (!isMoney(money) || !isMoney(other)) {
            return UNKNOWN;
        }
        if (money == other || a < 1 || a > MOST_RATE || b < 1 || b > MOST_RATE) {
            return BAD;
        }
        int was = 100 * rates.gotFor(money, other) + rates.givenFor(money, other);
        rates.put(money, other, a, b);
        return was;
    }

    public long ring(boolean upper) {
        seekRing();
        return ofFraction(best.got, best.given, upper);
    }

    public int ringAt(int i) {
        seekRing();
        return i < 0 || i >= best.many ? NONE : Ring.moneyAt(best.code, best.many, i);
    }

    public int should(int tooth, int w) {
        if (!isTooth(tooth)) {
            return UNKNOWN;
        }
        if (w < 0 || w > MOST_WEAR) {
            return BAD;
        }
        int was = teeth.get(tooth, Teeth.DUE);
        teeth.set(tooth, Teeth.DUE, w);
        return was;
    }

    public int stolen() {
        int set = 0;
        for (int tooth = 0; tooth < teeth.count; tooth++) {
            if (teeth.wearTooMuch(tooth) > 0) {
                set |= 1 << tooth;
            }
        }
        return set;
    }

    public int thief() {
        int most = 0;
        int thief = NONE;
        for (int person = 0; person < PEOPLE; person++) {
            int worn = teeth.wearTooMuchOf(person);
            if (worn > most) {
                most = worn;
                thief = person;
            }
        }
        return thief;
    }

    // ---- slots

    public int keep(int slot) {
        if (!isSlot(slot)) {
            return UNKNOWN;
        }
        slots[slot].takeIn(teeth, bargains, rates);
        return teeth.count;
    }

    public int again(int slot) {
        if (!isSlot(slot)) {
            return UNKNOWN;
        }
        if (!slots[slot].full) {
            return LATE;
        }
        slots[slot].giveOut(teeth, bargains, rates);
        return teeth.count;
    }

    // ---- what there is

    private boolean isTooth(int tooth) {
        return tooth >= 0 && tooth < teeth.count;
    }

    private boolean isGood(int good) {
        return good >= 0 && good < goods.count;
    }

    private boolean isSlot(int slot) {
        return slot >= 0 && slot < slots.length && slots[slot] != null;
    }

    private static boolean isPerson(int person) {
        return person >= 0 && person < PEOPLE;
    }

    private static boolean isMoney(int money) {
        return money >= 0 && money < MONIES;
    }

    private static boolean isPrice(int price) {
        return price >= 0 && price <= MOST_PRICE;
    }

    private static boolean isTenths(int tenths) {
        return tenths >= 0 && tenths <= 10;
    }

    private static int paymentRefusal(int person, int other, int price) {
        if (!isPerson(person) || !isPerson(other)) {
            return UNKNOWN;
        }
        return person == other || !isPrice(price) ? BAD : GRANTED;
    }

    /** Reads the TOOTH or GOOD that begins at this place of a TEXT without a FAULT. */
    private void readPart(int at) {
        int kind = text.byteAt(at);
        if (Text.tellsTooth(kind)) {
            int tooth = teeth.add(text.figureAt(at + 1), text.byteAt(at + 2) == 'L', text.figureAt(at + 4));
            teeth.set(tooth, Teeth.WEAR, text.figureAt(at + 3));
            teeth.set(tooth, Teeth.DUE, text.figureAt(at + 3));
            teeth.set(tooth, Teeth.FAKE, kind == 'B' ? 1 : 0);
        } else if (kind == 'G') {
            goods.add(10 * text.figureAt(at + 1) + text.figureAt(at + 2), text.figureAt(at + 3));
        }
    }

    // ---- what it is worth

    private int worthWorn(int tooth, int wear) {
        int plain = Math.max(0, 10 * teeth.get(tooth, Teeth.SIZE) - lossByWear * wear);
        return teeth.get(tooth, Teeth.LEFT) == 1 ? timesOfLeft * plain : plain;
    }

    private int worthOf(int tooth) {
        return worthWorn(tooth, teeth.get(tooth, Teeth.WEAR));
    }

    private int worthOfSet(int set) {
        int worth = 0;
        for (int tooth = 0; tooth < teeth.count; tooth++) {
            if ((set >> tooth & 1) == 1) {
                worth += worthOf(tooth);
            }
        }
        return worth;
    }

    // ---- searches among sets

    private int setsOfTeeth() {
        return Math.min(1 << teeth.count, balances.length);
    }

    /** Puts at every set of TEETH what it is worth, where TEETH of the change count against the others; none is 0. */
    private void weighSets(int change) {
        for (int tooth = 0; tooth < teeth.count; tooth++) {
            int bit = 1 << tooth;
            int worth = (change & bit) == 0 ? worthOf(tooth) : -worthOf(tooth);
            for (int set = 0; set < bit && bit + set < balances.length; set++) {
                balances[bit + set] = balances[set] + worth;
            }
        }
    }

    /** Leaves in the least one: how many TEETH, which are paid, which are the change. */
    private void seekFewest(int person, int other, int price) {
        int mine = teeth.ownedBy(person);
        int theirs = teeth.ownedBy(other);
        int outside = ~(mine | theirs);
        weighSets(theirs);
        least.clear();
        for (int set = 0; set < setsOfTeeth(); set++) {
            if ((set & outside) == 0 && balances[set] == price) {
                least.offer(Integer.bitCount(set), set & mine, set & theirs);
            }
        }
    }

    /** Leaves in the least one: the WORTH, how many TEETH, which. */
    private void seekTooMuch(int mine, int price) {
        weighSets(0);
        least.clear();
        for (int set = 0; set < setsOfTeeth(); set++) {
            if ((set & ~mine) == 0 && balances[set] >= price) {
                least.offer(balances[set], Integer.bitCount(set), set);
            }
        }
    }

    private void handOver(int set, int person) {
        for (int tooth = 0; tooth < teeth.count; tooth++) {
            if ((set >> tooth & 1) == 1) {
                teeth.wearDown(tooth);
                teeth.passTo(tooth, person);
            }
        }
    }

    // ---- seeds, chances, rings

    private static long drawFrom(long seed) {
        return seed * 6364136223846793005L + 1442695040888963407L;
    }

    private void addDrawn(int person, long drawn) {
        long upper = drawn >>> 33;
        teeth.add((int) (upper % MOST_SIZE) + 1, upper / MOST_SIZE % 2 == 0, person);
    }

    private static long power(long base, int times) {
        long product = 1;
        for (int i = 0; i < times; i++) {
            product *= base;
        }
        return product;
    }

    private static long ofFraction(long above, long below, boolean upper) {
        long common = commonDivisor(above, below);
        if (common <= 0) {
            return 0;
        }
        return (upper ? above : below) / common;
    }

    private static long commonDivisor(long one, long other) {
        long greater = one;
        long rest = other;
        // Longs are done with after 92 steps at the most.
        for (int step = 0; step < 100 && rest != 0; step++) {
            long next = greater % rest;
            greater = rest;
            rest = next;
        }
        return greater;
    }

    /** Rings come in the order in which the first of like ones holds: fewest MONIES, then by first, second .. */
    private void seekRing() {
        best.clear();
        for (int many = 2; many <= MONIES; many++) {
            int codes = 1 << 2 * many;
            for (int code = 0; code < codes; code++) {
                if (Ring.isRing(code, many)) {
                    best.offer(rates, code, many);
                }
            }
        }
    }

    /** THE TEXT, and where it first can be no MARKET. */
    private static final class Text {
        private final byte[] bytes = new byte[MOST_BYTES];
        private int length = 0;

        private void append(byte sign) {
            if (length >= 0 && length < bytes.length) {
                bytes[length] = sign;
                length++;
            }
        }

        private int byteAt(int place) {
            return place < 0 || place >= bytes.length ? 0 : bytes[place] & 255;
        }

        private int figureAt(int place) {
            return byteAt(place) - '0';
        }

        private static boolean tellsTooth(int kind) {
            return kind == 'T' || kind == 'B';
        }

        private static int partLength(int kind) {
            switch (kind) {
                case 'L': return 3;
                case 'T':
                case 'B': return 5;
                case 'G': return 4;
                default: return 1;
            }
        }

        private int faultPlace() {
            int kind = 0;
            int step = 0;
            int teeth = 0;
            int goods = 0;
            for (int at = 0; at < length; at++) {
                int sign = byteAt(at);
                if (step > 0) {
                    if (!mayFollow(kind, step, at)) {
                        return at;
                    }
                } else if (at == 0 ? sign != 'L' : !mayBegin(sign, teeth, goods)) {
                    return at;
                } else {
                    kind = sign;
                    teeth += tellsTooth(kind) ? 1 : 0;
                    goods += kind == 'G' ? 1 : 0;
                }
                step = step + 1 < partLength(kind) ? step + 1 : 0;
            }
            return length > 0 && step == 0 ? NONE : length;
        }

        private static boolean mayBegin(int sign, int teeth, int goods) {
            return tellsTooth(sign) && teeth < MOST_TEETH || sign == 'G' && goods < MOST_GOODS;
        }

        private boolean mayFollow(int kind, int step, int at) {
            int sign = byteAt(at);
            int figure = figureAt(at);
            if (tellsTooth(kind) && step == 2) {
                return sign == 'L' || sign == 'R';
            }
            int least = 0;
            int most = 9;
            if (kind == 'L' && step == 2 || tellsTooth(kind) && step == 1) {
                least = 1;
            } else if (kind == 'G' && step == 2 && byteAt(at - 1) == '0') {
                least = 1;
            } else if (tellsTooth(kind) && step == 4) {
                most = PEOPLE - 1;
            }
            return figure >= least && figure <= most;
        }
    }

    /** TEETH, each a run of cells of one row, so that all of them are copied at once. */
    private static final class Teeth {
        private static final int SIZE = 0, LEFT = 1, WEAR = 2, OWNER = 3, FAKE = 4, DUE = 5;
        private static final int TRACES = 6, TRACE = 7, CELLS = TRACE + MOST_TRACES;

        private final int[] cells = new int[MOST_TEETH * CELLS];
        private int count = 0;

        private int get(int tooth, int cell) {
            int at = tooth * CELLS + cell;
            return at < 0 || at >= cells.length ? 0 : cells[at];
        }

        private void set(int tooth, int cell, int value) {
            int at = tooth * CELLS + cell;
            if (at >= 0 && at < cells.length) {
                cells[at] = value;
            }
        }

        /** A true one without WEAR comes last; its number is answered. */
        private int add(int size, boolean left, int owner) {
            int tooth = count;
            if (tooth >= MOST_TEETH) {
                return NONE;
            }
            count++;
            set(tooth, SIZE, size);
            set(tooth, LEFT, left ? 1 : 0);
            set(tooth, WEAR, 0);
            set(tooth, FAKE, 0);
            set(tooth, DUE, 0);
            set(tooth, TRACES, 0);
            passTo(tooth, owner);
            return tooth;
        }

        private void passTo(int tooth, int owner) {
            set(tooth, OWNER, owner);
            int traces = get(tooth, TRACES);
            if (traces < MOST_TRACES) {
                set(tooth, TRACE + traces, owner);
                set(tooth, TRACES, traces + 1);
            }
        }

        private int traceOf(int tooth, int i) {
            return i < 0 || i >= get(tooth, TRACES) ? NONE : get(tooth, TRACE + i);
        }

        private void wearDown(int tooth) {
            set(tooth, WEAR, Math.min(MOST_WEAR, get(tooth, WEAR) + 1));
        }

        private int ownedBy(int person) {
            int set = 0;
            for (int tooth = 0; tooth < count; tooth++) {
                if (get(tooth, OWNER) == person) {
                    set |= 1 << tooth;
                }
            }
            return set;
        }

        private int fakes() {
            int fakes = 0;
            for (int tooth = 0; tooth < count; tooth++) {
                fakes += get(tooth, FAKE);
            }
            return fakes;
        }

        private int wearTooMuch(int tooth) {
            return Math.max(0, get(tooth, WEAR) - get(tooth, DUE));
        }

        private int wearTooMuchOf(int person) {
            int worn = 0;
            for (int tooth = 0; tooth < count; tooth++) {
                if (get(tooth, OWNER) == person) {
                    worn += wearTooMuch(tooth);
                }
            }
            return worn;
        }

        private void copyFrom(Teeth other) {
            if (other != null) {
                count = other.count;
                copyCells(other, 0, cells.length);
            }
        }

        /** What WEAR should be is no matter of a bargain, so it stays; so do TEETH that came since. */
        private void takeBack(Teeth ahead) {
            if (ahead == null) {
                return;
            }
            for (int tooth = 0; tooth < ahead.count; tooth++) {
                int due = get(tooth, DUE);
                copyCells(ahead, tooth * CELLS, CELLS);
                set(tooth, DUE, due);
            }
        }

        private void copyCells(Teeth other, int from, int many) {
            if (from >= 0 && many >= 0 && from + many <= cells.length && from + many <= other.cells.length) {
                System.arraycopy(other.cells, from, cells, from, many);
            }
        }
    }

    private static final class Goods {
        private final int[] prices = new int[MOST_GOODS];
        private final int[] uses = new int[MOST_GOODS];
        private int count = 0;

        private void add(int price, int use) {
            if (count >= 0 && count < prices.length && count < uses.length) {
                prices[count] = price;
                uses[count] = use;
                count++;
            }
        }

        private int priceOf(int good) {
            return good < 0 || good >= prices.length ? 0 : prices[good];
        }

        private int useOf(int good) {
            return good < 0 || good >= uses.length ? 0 : uses[good];
        }

        private int priceOfSet(int set) {
            int price = 0;
            for (int good = 0; good < count; good++) {
                price += (set >> good & 1) * priceOf(good);
            }
            return price;
        }

        private int useOfSet(int set) {
            int use = 0;
            for (int good = 0; good < count; good++) {
                use += (set >> good & 1) * useOf(good);
            }
            return use;
        }
    }

    /** BARGAINS that were made: of each the TEETH as they were ahead of it. */
    private static final class Bargains {
        private final Teeth[] ahead = new Teeth[MOST_BARGAINS];
        private int made = 0;

        private Bargains() {
            for (int i = 0; i < ahead.length; i++) {
                ahead[i] = new Teeth();
            }
        }

        private void remember(Teeth teeth) {
            if (made >= 0 && made < ahead.length && ahead[made] != null) {
                ahead[made].copyFrom(teeth);
                made++;
            }
        }

        private void takeBack(Teeth teeth) {
            if (made > 0 && made <= ahead.length) {
                made--;
                teeth.takeBack(ahead[made]);
            }
        }

        private void copyFrom(Bargains other) {
            made = other.made;
            for (int i = 0; i < made && i < ahead.length && i < other.ahead.length; i++) {
                if (ahead[i] != null) {
                    ahead[i].copyFrom(other.ahead[i]);
                }
            }
        }
    }

    /** For every two MONIES what one gets of the other, and for how much of the one. */
    private static final class Rates {
        private final int[] got = new int[MONIES * MONIES];
        private final int[] given = new int[MONIES * MONIES];

        private Rates() {
            Arrays.fill(got, 1);
            Arrays.fill(given, 1);
        }

        private int gotFor(int money, int other) {
            int at = money * MONIES + other;
            return at < 0 || at >= got.length ? 1 : got[at];
        }

        private int givenFor(int money, int other) {
            int at = money * MONIES + other;
            return at < 0 || at >= given.length ? 1 : given[at];
        }

        private void put(int money, int other, int a, int b) {
            int at = money * MONIES + other;
            if (at >= 0 && at < got.length && at < given.length) {
                got[at] = a;
                given[at] = b;
            }
        }

        private void copyFrom(Rates other) {
            System.arraycopy(other.got, 0, got, 0, Math.min(got.length, other.got.length));
            System.arraycopy(other.given, 0, given, 0, Math.min(given.length, other.given.length));
        }
    }

    /** The best RING offered so far. A ring's code has its MONIES as figures of base 4, the first one highest. */
    private static final class Ring {
        private int code = 0;
        private int many = 0;
        private long got = 0;
        private long given = 1;

        private void clear() {
            code = 0;
            many = 0;
            got = 0;
            given = 1;
        }

        private static int moneyAt(int code, int many, int i) {
            return code >> 2 * (many - 1 - i) & 3;
        }

        /** Each MONEY once, the least of them first. */
        private static boolean isRing(int code, int many) {
            int first = moneyAt(code, many, 0);
            int seen = 1 << first;
            for (int i = 1; i < many; i++) {
                int money = moneyAt(code, many, i);
                if (money < first || (seen >> money & 1) == 1) {
                    return false;
                }
                seen |= 1 << money;
            }
            return true;
        }

        private void offer(Rates rates, int newCode, int newMany) {
            long newGot = 1;
            long newGiven = 1;
            for (int i = 0; i < newMany; i++) {
                int money = moneyAt(newCode, newMany, i);
                int next = moneyAt(newCode, newMany, i + 1 < newMany ? i + 1 : 0);
                newGot *= rates.gotFor(money, next);
                newGiven *= rates.givenFor(money, next);
            }
            if (newGot * given > got * newGiven) {
                code = newCode;
                many = newMany;
                got = newGot;
                given = newGiven;
            }
        }
    }

    /** The least three numbers offered: by the first of them, of like ones by the second, then by the third. */
    private static final class Least {
        private boolean found = false;
        private int first = 0;
        private int second = 0;
        private int third = 0;

        private void clear() {
            found = false;
            first = 0;
            second = 0;
            third = 0;
        }

        private void offer(int one, int two, int three) {
            if (!found || one < first || one == first && (two < second || two == second && three < third)) {
                found = true;
                first = one;
                second = two;
                third = three;
            }
        }
    }

    /** What a SLOT keeps; LOSS, RATE and GOODS are no part of it. */
    private static final class Slot {
        private final Teeth teeth = new Teeth();
        private final Bargains bargains = new Bargains();
        private final Rates rates = new Rates();
        private boolean full = false;

        private void takeIn(Teeth nowTeeth, Bargains nowBargains, Rates nowRates) {
            teeth.copyFrom(nowTeeth);
            bargains.copyFrom(nowBargains);
            rates.copyFrom(nowRates);
            full = true;
        }

        private void giveOut(Teeth nowTeeth, Bargains nowBargains, Rates nowRates) {
            nowTeeth.copyFrom(teeth);
            nowBargains.copyFrom(bargains);
            nowRates.copyFrom(rates);
        }
    }
}
