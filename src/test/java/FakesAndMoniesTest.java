/** Promises 24 to 31: DOUBT, AMONG, RATES, THE BEST RING, what WEAR should be, STOLEN, BY MOST. */
public final class FakesAndMoniesTest {
    private static final Check CHECK = new Check("FakesAndMoniesTest");
    private static final int[] NO_NUMBERS = {-1, Integer.MIN_VALUE, Integer.MAX_VALUE};

    public static void main(String[] args) {
        doubt();
        doubtIsRefused();
        among();
        amongIsRefused();
        rate();
        ring();
        ringsOfLikeGain();
        ringsOfGreatNumbers();
        should();
        stolen();
        thief();
        CHECK.end();
    }

    private static void doubt(int[] of, long above, long below) {
        CHECK.due("24 above", new TeethForCoins().doubt(of[0], of[1], of[2], of[3], of[4], true), above);
        CHECK.due("24 below", new TeethForCoins().doubt(of[0], of[1], of[2], of[3], of[4], false), below);
    }

    private static void doubt() {
        // 3 * 8 of 3 * 8 + 7 * 1.
        doubt(new int[] {3, 8, 1, 1, 1}, 24, 31);
        // 3 * 2 of 3 * 2 + 7 * 9.
        doubt(new int[] {3, 8, 1, 1, 0}, 2, 23);
        // 2 * 7 * 7 * 3 of that and 8 * 4 * 4 * 6.
        doubt(new int[] {2, 7, 4, 3, 2}, 49, 177);
        doubt(new int[] {5, 6, 6, 6, 6}, 1, 2);
        doubt(new int[] {9, 9, 9, 6, 0}, 9, 10);
        doubt(new int[] {0, 5, 5, 2, 1}, 0, 1);
        doubt(new int[] {10, 5, 5, 2, 1}, 1, 1);
        doubt(new int[] {5, 10, 1, 6, 6}, 1000000, 1000001);
        doubt(new int[] {5, 10, 1, 6, 5}, 0, 1);
        doubt(new int[] {5, 3, 0, 6, 1}, 1, 1);
        doubt(new int[] {1, 0, 0, 4, 0}, 1, 10);
        doubt(new int[] {1, 10, 10, 4, 4}, 1, 10);
        doubt(new int[] {1, 1, 0, 1, 1}, 1, 1);
    }

    private static void doubtIsRefused() {
        doubt(new int[] {10, 0, 5, 1, 1}, -3, -3);
        doubt(new int[] {10, 10, 5, 2, 1}, -3, -3);
        doubt(new int[] {0, 5, 0, 3, 1}, -3, -3);
        doubt(new int[] {0, 5, 10, 3, 2}, -3, -3);
        doubt(new int[] {5, 0, 0, 3, 1}, -3, -3);
        int[] good = {5, 5, 5, 3, 1};
        int[] beyond = {11, 11, 11, 7, 4};
        for (int i = 0; i < good.length; i++) {
            int[] bad = good.clone();
            bad[i] = beyond[i];
            doubt(bad, -2, -2);
            for (int no : NO_NUMBERS) {
                bad[i] = no;
                doubt(bad, -2, -2);
            }
        }
        doubt(new int[] {5, 5, 5, 0, 0}, -2, -2);
        // BAD ahead of LATE.
        doubt(new int[] {10, 0, 5, 1, 2}, -2, -2);
    }

    private static void among(int n, int f, int k, long above, long below) {
        CHECK.due("25 above", new TeethForCoins().among(n, f, k, true), above);
        CHECK.due("25 below", new TeethForCoins().among(n, f, k, false), below);
    }

    private static void among() {
        among(1, 3, 1, 3, 10);
        among(1, 3, 0, 1, 1);
        // 3 * 4 * 4 * 6 + 4 * 4 * 4 of 1000.
        among(3, 4, 2, 44, 125);
        among(2, 5, 1, 3, 4);
        among(10, 1, 10, 1, 10000000000L);
        among(10, 9, 1, 9999999999L, 10000000000L);
        among(10, 0, 1, 0, 1);
        among(10, 0, 0, 1, 1);
        among(10, 10, 10, 1, 1);
        among(7, 5, 4, 1, 2);
        among(4, 5, 2, 11, 16);
    }

    private static void amongIsRefused() {
        among(11, 5, 1, -2, -2);
        among(0, 5, 0, -2, -2);
        among(3, 11, 1, -2, -2);
        among(3, 5, 4, -2, -2);
        for (int no : NO_NUMBERS) {
            among(no, 5, 0, -2, -2);
            among(3, no, 1, -2, -2);
            among(3, 5, no, -2, -2);
        }
    }

    private static void rate() {
        TeethForCoins x = new TeethForCoins();
        for (int money = 0; money < 4; money++) {
            for (int other = 0; other < 4; other++) {
                if (money != other) {
                    CHECK.due("26 at first", x.rate(money, other, 10 + money, 20 + other), 101);
                }
            }
        }
        for (int money = 0; money < 4; money++) {
            for (int other = 0; other < 4; other++) {
                if (money != other) {
                    CHECK.due("26 each its own", x.rate(money, other, 99, 1), 100 * (10 + money) + 20 + other);
                }
            }
        }
        CHECK.due("26 the a that was, and the b", x.rate(3, 0, 1, 99), 9901);
        CHECK.due("26 UNKNOWN", x.rate(4, 0, 1, 1), -1);
        CHECK.due("26 UNKNOWN", x.rate(0, 4, 1, 1), -1);
        CHECK.due("26 UNKNOWN ahead of BAD", x.rate(4, 4, 0, 0), -1);
        CHECK.due("26 BAD: both are one", x.rate(2, 2, 1, 1), -2);
        CHECK.due("26 BAD: a", x.rate(3, 0, 0, 1), -2);
        CHECK.due("26 BAD: a", x.rate(3, 0, 100, 1), -2);
        CHECK.due("26 BAD: b", x.rate(3, 0, 1, 0), -2);
        CHECK.due("26 BAD: b", x.rate(3, 0, 1, 100), -2);
        for (int no : NO_NUMBERS) {
            CHECK.due("26 UNKNOWN", x.rate(no, 0, 1, 1), -1);
            CHECK.due("26 UNKNOWN", x.rate(3, no, 1, 1), -1);
            CHECK.due("26 BAD: a", x.rate(3, 0, no, 1), -2);
            CHECK.due("26 BAD: b", x.rate(3, 0, 1, no), -2);
        }
        CHECK.due("26 what is refused changes nothing", x.rate(3, 0, 7, 7), 199);
    }

    private static void best(String what, TeethForCoins x, long above, long below, int... monies) {
        CHECK.due("27 " + what + ": above", x.ring(true), above);
        CHECK.due("27 " + what + ": below", x.ring(false), below);
        for (int i = 0; i < 6; i++) {
            CHECK.due("28 " + what + ": " + i, x.ringAt(i), i < monies.length ? monies[i] : -9);
        }
        for (int no : NO_NUMBERS) {
            CHECK.due("28 NONE", x.ringAt(no), -9);
        }
    }

    private static void ring() {
        TeethForCoins x = new TeethForCoins();
        CHECK.due("28 at first, not asked for the gain", x.ringAt(1), 1);
        CHECK.due("28 at first, not asked for the gain", x.ringAt(2), -9);
        best("at first", x, 1, 1, 0, 1);
        x.rate(3, 2, 6, 4);
        CHECK.due("28 not asked for the gain", x.ringAt(0), 2);
        best("of two", x, 3, 2, 2, 3);
        // 3 for 1, 1 for 2, 2 for 3: only in this direction.
        x.rate(3, 1, 2, 1);
        x.rate(1, 2, 3, 1);
        x.rate(2, 3, 5, 2);
        x.rate(1, 3, 1, 50);
        x.rate(2, 1, 1, 50);
        x.rate(3, 2, 1, 50);
        best("of three from the least on", x, 15, 1, 1, 2, 3);
        x.rate(2, 0, 9, 1);
        x.rate(0, 3, 9, 5);
        best("of four from the least on", x, 486, 5, 0, 3, 1, 2);
        // All lose but one that loses least.
        TeethForCoins y = new TeethForCoins();
        for (int money = 0; money < 4; money++) {
            for (int other = 0; other < 4; other++) {
                if (money != other) {
                    y.rate(money, other, 1, 2);
                }
            }
        }
        y.rate(3, 1, 2, 3);
        best("that loses least", y, 1, 3, 1, 3);
        y.rate(0, 2, 2, 3);
        best("the first of like ones", y, 1, 3, 0, 2);
    }

    private static void ringsOfLikeGain() {
        // 0 1 2 and 0 3 gain 4 each: fewest MONIES.
        TeethForCoins x = new TeethForCoins();
        x.rate(0, 1, 2, 1);
        x.rate(1, 2, 2, 1);
        x.rate(1, 0, 1, 2);
        x.rate(2, 1, 1, 2);
        x.rate(2, 3, 1, 4);
        x.rate(0, 3, 4, 1);
        x.rate(1, 3, 1, 2);
        x.rate(3, 1, 1, 4);
        x.rate(3, 2, 1, 9);
        best("of like ones with fewest", x, 4, 1, 0, 3);
        // 0 2 3 and 0 1 3 gain 6 each: by the second MONEY.
        TeethForCoins y = new TeethForCoins();
        y.rate(0, 2, 2, 1);
        y.rate(2, 3, 3, 1);
        y.rate(0, 1, 3, 1);
        y.rate(1, 3, 4, 2);
        for (int[] two : new int[][] {{1, 0}, {2, 0}, {3, 1}, {3, 2}, {2, 1}, {1, 2}, {0, 3}}) {
            y.rate(two[0], two[1], 1, 90);
        }
        best("of like ones the first", y, 6, 1, 0, 1, 3);
        // 1 3 and 2 3 gain 6 each: by the first MONEY.
        TeethForCoins z = new TeethForCoins();
        for (int[] two : new int[][] {{0, 1}, {0, 2}, {0, 3}, {1, 2}, {2, 1}}) {
            z.rate(two[0], two[1], 1, 90);
        }
        z.rate(3, 2, 12, 2);
        z.rate(3, 1, 6, 1);
        best("of like ones the first", z, 6, 1, 1, 3);
    }

    private static void ringsOfGreatNumbers() {
        // Products of an a and a b of two such rings do not go into an int.
        TeethForCoins x = new TeethForCoins();
        for (int money = 0; money < 4; money++) {
            for (int other = 0; other < 4; other++) {
                if (money != other) {
                    x.rate(money, other, 1, 99);
                }
            }
        }
        x.rate(0, 1, 99, 98);
        x.rate(1, 3, 97, 98);
        x.rate(3, 2, 98, 97);
        x.rate(2, 0, 98, 99);
        best("of four", x, 1, 1, 0, 1, 3, 2);
        // 3201 of 3136 against 9604 of 9409, which 2 and 3 gain: 1.020727 against 1.020725.
        x.rate(1, 2, 97, 98);
        x.rate(2, 3, 98, 97);
        x.rate(3, 0, 97, 96);
        best("of four, by a little", x, 3201, 3136, 0, 1, 2, 3);
        for (int money = 0; money < 4; money++) {
            for (int other = 0; other < 4; other++) {
                if (money != other) {
                    x.rate(money, other, 1, 99);
                }
            }
        }
        for (int money = 0; money < 4; money++) {
            x.rate(money, (money + 1) % 4, 99, 1);
        }
        best("the greatest", x, 96059601L, 1, 0, 1, 2, 3);
    }

    private static void should() {
        TeethForCoins x = Check.market("L11T5R30T4L02");
        CHECK.due("29 as it is at first", x.should(0, 99), 3);
        CHECK.due("29 what it should have been", x.should(0, 0), 99);
        CHECK.due("29 each its own", x.should(1, 5), 0);
        CHECK.due("29 wear stays", x.tooth(0, 2), 3);
        CHECK.due("29 as it is when it comes", x.should(x.caught(0, 5L), 9), 0);
        CHECK.due("29 UNKNOWN", x.should(3, 1), -1);
        CHECK.due("29 UNKNOWN ahead of BAD", x.should(3, 100), -1);
        CHECK.due("29 BAD", x.should(0, 100), -2);
        for (int no : NO_NUMBERS) {
            CHECK.due("29 UNKNOWN", x.should(no, 1), -1);
            CHECK.due("29 BAD", x.should(0, no), -2);
        }
        CHECK.due("29 what is refused changes nothing", x.should(0, 1), 0);
    }

    private static void stolen() {
        TeethForCoins x = Check.market("L11T5R30B4L02T3R91T2R21");
        CHECK.due("30 none", x.stolen(), 0);
        x.handle(1);
        CHECK.due("30 handled", x.stolen(), 2);
        x.should(1, 1);
        CHECK.due("30 as it should be", x.stolen(), 0);
        x.should(0, 2);
        x.should(2, 10);
        x.should(3, 0);
        CHECK.due("30 some", x.stolen(), 9);
        x.bite(3);
        CHECK.due("30 bitten it has no wear", x.stolen(), 1);
        x.pay(1, 3, 21);
        CHECK.due("30 paid", x.stolen(), 1);
        x.pay(0, 1, 47);
        CHECK.due("30 paid", x.stolen(), 1);
        // What went with another market does not count.
        x = Check.market("L11T5R90T5R90T5R91");
        for (int tooth = 0; tooth < 3; tooth++) {
            x.should(tooth, 0);
        }
        CHECK.due("30 all", x.stolen(), 7);
        x.wipe();
        Check.tell(x, "L11T5R90");
        x.market();
        CHECK.due("30 gone", x.stolen(), 0);
        CHECK.due("31 gone", x.thief(), -9);
        CHECK.due("30 no teeth", new TeethForCoins().stolen(), 0);
    }

    private static void thief() {
        TeethForCoins x = Check.market("L11T5R30T5R31T5R31T5R32T5R93");
        CHECK.due("31 NONE", x.thief(), -9);
        x.should(4, 99);
        CHECK.due("31 less wear is no matter", x.thief(), -9);
        x.should(3, 0);
        CHECK.due("31 by most", x.thief(), 2);
        x.should(1, 2);
        x.should(2, 2);
        CHECK.due("31 fewer teeth, more wear", x.thief(), 2);
        x.should(2, 1);
        CHECK.due("31 of like ones the least", x.thief(), 1);
        x.handle(3);
        CHECK.due("31 by most", x.thief(), 2);
        x.should(4, 0);
        CHECK.due("31 by most", x.thief(), 3);
        x.should(0, 0);
        CHECK.due("31 by most still", x.thief(), 3);
        x.pay(3, 0, x.tooth(4, 4));
        CHECK.due("31 who owns it now", x.thief(), 0);
        // One with WEAR too little does not make up for one with too much.
        x = Check.market("L11T5R20T5R90T5R21");
        x.should(0, 0);
        x.should(1, 99);
        x.should(2, 1);
        CHECK.due("31 too little does not count", x.thief(), 0);
        x = Check.market("L11T5R23");
        x.should(0, 1);
        CHECK.due("31 by one", x.thief(), 3);
        CHECK.due("31 no teeth", new TeethForCoins().thief(), -9);
    }
}
