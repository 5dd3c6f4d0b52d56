import java.math.BigInteger;

/** Promises 19 to 23: CAUGHT, WASHED ASHORE, LIFE, TRACE, INFLATED. */
public final class ComeAndLiveTest {
    private static final Check CHECK = new Check("ComeAndLiveTest");
    private static final int[] NO_NUMBERS = {-1, Integer.MIN_VALUE, Integer.MAX_VALUE};
    private static final BigInteger ROOM = BigInteger.ONE.shiftLeft(64);

    public static void main(String[] args) {
        caught();
        caughtIsRefused();
        washed();
        washedIsRefused();
        life();
        trace();
        inflated();
        CHECK.end();
    }

    /** x of a SEED, by numbers that do not wrap. */
    private static BigInteger x(BigInteger seed) {
        return seed.multiply(new BigInteger("6364136223846793005"))
            .add(new BigInteger("1442695040888963407")).mod(ROOM);
    }

    private static void drawn(String what, TeethForCoins x, int tooth, BigInteger number, int owner) {
        BigInteger[] parts = number.shiftRight(33).divideAndRemainder(BigInteger.valueOf(9));
        CHECK.due(what + ": size", x.tooth(tooth, 0), parts[1].intValue() + 1);
        CHECK.due(what + ": left", x.tooth(tooth, 1), parts[0].testBit(0) ? 0 : 1);
        CHECK.due(what + ": wear", x.tooth(tooth, 2), 0);
        CHECK.due(what + ": owner", x.tooth(tooth, 3), owner);
        CHECK.due(what + ": no fake", x.tooth(tooth, 5), 0);
        CHECK.due(what + ": trace", x.trace(tooth, 0), owner);
        CHECK.due(what + ": trace", x.trace(tooth, 1), -9);
        CHECK.due(what + ": should", x.should(tooth, 0), 0);
    }

    private static void caught() {
        long[] seeds = {0, 1, -1, Long.MIN_VALUE, Long.MAX_VALUE, 1L << 33, 123456789L, -987654321987L, 42, 77};
        // What was there before must leave nothing on the TEETH that come.
        TeethForCoins x = Check.market("L11" + "B9L93".repeat(10));
        x.pay(3, 0, 0);
        for (int tooth = 0; tooth < 10; tooth++) {
            x.should(tooth, 50);
        }
        x.wipe();
        Check.tell(x, "L24");
        x.market();
        for (int i = 0; i < seeds.length; i++) {
            CHECK.due("19 its number", x.caught(i % 4, seeds[i]), i);
            drawn("19 seed " + seeds[i], x, i, x(BigInteger.valueOf(seeds[i])), i % 4);
            CHECK.due("19 how many", x.about(0), i + 1);
        }
        CHECK.due("19 FULL", x.caught(0, 5L), -4);
        CHECK.due("19 FULL changes nothing", x.about(0), 10);
        CHECK.due("19 no fakes", x.about(6), 0);
    }

    private static void caughtIsRefused() {
        TeethForCoins x = Check.market("L11T1L00");
        CHECK.due("19 UNKNOWN", x.caught(4, 1L), -1);
        for (int no : NO_NUMBERS) {
            CHECK.due("19 UNKNOWN", x.caught(no, 1L), -1);
        }
        CHECK.due("19 UNKNOWN changes nothing", x.about(0), 1);
        x.washed(9, 1L);
        CHECK.due("19 UNKNOWN ahead of FULL", x.caught(4, 1L), -1);
    }

    private static void washed() {
        TeethForCoins x = Check.market("L11B9L93");
        CHECK.due("20 how many", x.washed(6, -3L), 7);
        BigInteger number = BigInteger.valueOf(-3);
        for (int i = 0; i < 6; i++) {
            number = x(number);
            drawn("20 the " + i + "-th", x, 1 + i, number, i % 4);
        }
        CHECK.due("20 one more", x.washed(1, 9L), 8);
        drawn("20 from 0 on once more", x, 7, x(BigInteger.valueOf(9)), 0);
        CHECK.due("20 up to ten", x.washed(2, Long.MIN_VALUE), 10);
        drawn("20 the last", x, 9, x(x(BigInteger.valueOf(Long.MIN_VALUE))), 1);
        CHECK.due("20 ten at once", new TeethForCoins().washed(10, 0L), 10);
    }

    private static void washedIsRefused() {
        TeethForCoins x = Check.market("L11T1L00");
        CHECK.due("20 BAD", x.washed(0, 1L), -2);
        CHECK.due("20 BAD ahead of FULL", x.washed(11, 1L), -2);
        for (int no : NO_NUMBERS) {
            CHECK.due("20 BAD", x.washed(no, 1L), -2);
        }
        CHECK.due("20 FULL", x.washed(10, 1L), -4);
        CHECK.due("20 none comes", x.about(0), 1);
        x.washed(9, 1L);
        CHECK.due("20 FULL", x.washed(1, 1L), -4);
        CHECK.due("20 BAD ahead of FULL", x.washed(0, 1L), -2);
    }

    private static void life() {
        TeethForCoins x = Check.market("L32T4L10T9R00T1R40");
        // (40 - 3 wear) * 2, at first 74.
        CHECK.due("21 not now", x.life(0, 75), -9);
        CHECK.due("21 now alone", x.life(0, 74), 0);
        CHECK.due("21 now alone", x.life(0, 69), 0);
        CHECK.due("21 once", x.life(0, 68), 1);
        CHECK.due("21 until 1 is left", x.life(0, 1), 12);
        CHECK.due("21 until 2 is left", x.life(0, 2), 12);
        CHECK.due("21 until 3 is left", x.life(0, 3), 11);
        CHECK.due("21 a right one", x.life(1, 1), 29);
        CHECK.due("21 it is worth nothing", x.life(2, 1), -9);
        CHECK.due("21 much", x.life(1, 999), -9);
        CHECK.due("21 asks, does not handle", x.tooth(0, 2), 1);
        CHECK.due("21 long", Check.market("L11T9R00").life(0, 1), 89);
        TeethForCoins y = Check.market("L05T9L90T3R00");
        CHECK.due("21 for ever", y.life(0, 450), 999);
        CHECK.due("21 not now", y.life(0, 451), -9);
        CHECK.due("21 for ever", y.life(1, 1), 999);
        for (int i = 0; i < 99; i++) {
            y.handle(1);
        }
        CHECK.due("21 for ever, worn as it can be", y.life(1, 30), 999);
        CHECK.due("21 UNKNOWN", y.life(2, 1), -1);
        CHECK.due("21 UNKNOWN ahead of BAD", y.life(2, 0), -1);
        CHECK.due("21 BAD", y.life(0, 0), -2);
        CHECK.due("21 BAD", y.life(0, 1000), -2);
        for (int no : NO_NUMBERS) {
            CHECK.due("21 UNKNOWN", y.life(no, 1), -1);
            CHECK.due("21 BAD", y.life(0, no), -2);
        }
    }

    private static void trace() {
        TeethForCoins x = Check.market("L01T5R03T1R01");
        x.pay(3, 1, 40);
        x.pay(1, 0, 50);
        int[] due = {3, 1, 0};
        for (int i = 0; i < due.length; i++) {
            CHECK.due("22 trace", x.trace(0, i), due[i]);
        }
        CHECK.due("22 none such", x.trace(0, 3), -9);
        CHECK.due("22 of the change", x.trace(1, 0), 1);
        CHECK.due("22 of the change", x.trace(1, 1), 3);
        CHECK.due("22 of the change", x.trace(1, 2), -9);
        x.handle(0);
        x.bite(0);
        CHECK.due("22 handled it has no other owner", x.trace(0, 3), -9);
        CHECK.due("22 UNKNOWN", x.trace(2, 0), -1);
        CHECK.due("22 UNKNOWN", x.trace(2, -1), -1);
        for (int no : NO_NUMBERS) {
            CHECK.due("22 UNKNOWN", x.trace(no, 0), -1);
            CHECK.due("22 NONE", x.trace(0, no), -9);
        }
        CHECK.due("22 NONE", x.trace(0, 8), -9);
        CHECK.due("22 NONE", x.trace(1, 9), -9);
    }

    private static void inflated() {
        TeethForCoins x = Check.market("L11T3R00B4R01G990G010G330");
        CHECK.due("23 by nothing", x.inflated(0, 0), 99);
        CHECK.due("23 cut", x.inflated(0, 1), 100);
        CHECK.due("23 cut", x.inflated(2, 35), 49);
        CHECK.due("23 by all WORTH", x.inflated(2, 70), 66);
        CHECK.due("23 little", x.inflated(1, 69), 1);
        CHECK.due("23 little", x.inflated(1, 70), 2);
        CHECK.due("23 most", x.inflated(0, 9999), 99 * 10069 / 70);
        TeethForCoins y = Check.market("L91T1R90G990");
        CHECK.due("23 LATE", y.inflated(0, 0), -3);
        CHECK.due("23 BAD ahead of LATE", y.inflated(0, -1), -2);
        CHECK.due("23 LATE: no teeth", Check.market("L91G990").inflated(0, 9999), -3);
        CHECK.due("23 all that can be", Check.market("L11T1R90G990").inflated(0, 9999), 990000);
        CHECK.due("23 UNKNOWN", x.inflated(3, 0), -1);
        CHECK.due("23 UNKNOWN ahead of BAD", x.inflated(3, -1), -1);
        CHECK.due("23 BAD", x.inflated(0, 10000), -2);
        for (int no : NO_NUMBERS) {
            CHECK.due("23 UNKNOWN", x.inflated(no, 0), -1);
            CHECK.due("23 BAD", x.inflated(0, no), -2);
        }
        CHECK.due("23 changes no price", x.good(0, 0), 99);
    }
}
