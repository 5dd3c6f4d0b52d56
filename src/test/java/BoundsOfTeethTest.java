/**
 * Promises 19 to 23 sentence by sentence: of each one that names a bound, just inside it and just outside it. That what
 * is refused changes nothing is held by RefusalTest.
 */
public final class BoundsOfTeethTest {
    private static final Check CHECK = new Check("BoundsOfTeethTest");
    private static final long TIMES = 6364136223846793005L, MORE = 1442695040888963407L;

    public static void main(String[] args) {
        seedsByTheirUpperBits();
        seedsThatWrap();
        caughtUpToTen();
        caughtForPeople();
        washedOneToTen();
        washedUpToTen();
        washedOneFromTheOther();
        lifeAboveOneTo999();
        lifeUntilWorthIsLess();
        lifeForEver();
        traceOfEight();
        traceOfWhatComes();
        inflatedByZeroTo9999();
        inflatedIsCut();
        inflatedWithoutWorth();
        CHECK.end();
    }

    /** The SEED whose x is this: TIMES is odd, so that it has an inverse among 64 bits. */
    private static long seedOf(long x) {
        long inverse = TIMES;
        for (int i = 0; i < 6; i++) {
            inverse *= 2 - TIMES * inverse;
        }
        return (x - MORE) * inverse;
    }

    /** "of its upper 31 bits: by 9 what is left, and 1: its size; what goes in, by 2: left over 0 a left one" */
    private static void seedsByTheirUpperBits() {
        long most = (1L << 31) - 1;
        long[][] upperSizeLeft = {{0, 1, 1}, {1, 2, 1}, {8, 9, 1}, {9, 1, 0}, {17, 9, 0}, {18, 1, 1}, {26, 9, 1},
            {27, 1, 0}, {most, 2, 1}, {most - 1, 1, 1}, {most - 2, 9, 0}, {1L << 30, 2, 0}};
        for (long[] of : upperSizeLeft) {
            for (long lower : new long[] {0, 1, 1L << 32, (1L << 33) - 1}) {
                TeethForCoins x = new TeethForCoins();
                CHECK.due("19 its number", x.caught(3, seedOf(of[0] << 33 | lower)), 0);
                String what = "19 upper bits " + of[0] + ", lower ones " + lower;
                CHECK.due(what + ": size", x.tooth(0, 0), of[1]);
                CHECK.due(what + ": left", x.tooth(0, 1), of[2]);
                CHECK.due(what + ": WEAR", x.tooth(0, 2), 0);
                CHECK.due(what + ": OWNER", x.tooth(0, 3), 3);
                CHECK.due(what + ": FAKE", x.tooth(0, 5), 0);
            }
        }
    }

    /** "a SEED (a long)", "(64 bits, wrapping)": x by halves of 32 bits, which do not wrap. */
    private static void seedsThatWrap() {
        long[] seeds = {0, 1, -1, 2, Integer.MAX_VALUE, Integer.MIN_VALUE, 1L << 32, Long.MAX_VALUE, Long.MIN_VALUE,
            Long.MIN_VALUE + 1, 0x5555555555555555L, 0xAAAAAAAAAAAAAAAAL};
        for (long seed : seeds) {
            long low = (seed & 0xFFFFFFFFL) * (TIMES & 0xFFFFFFFFL);
            long carry = (low >>> 32) + (MORE >>> 32) + ((low & 0xFFFFFFFFL) + (MORE & 0xFFFFFFFFL) >>> 32);
            long high = (seed >>> 32) * (TIMES & 0xFFFFFFFFL) + (seed & 0xFFFFFFFFL) * (TIMES >>> 32) + carry;
            long upper = (high & 0xFFFFFFFFL) >> 1;
            TeethForCoins x = new TeethForCoins();
            x.caught(0, seed);
            CHECK.due("19 size of " + seed, x.tooth(0, 0), upper % 9 + 1);
            CHECK.due("19 side of " + seed, x.tooth(0, 1), 1 - upper / 9 % 2);
        }
    }

    /** "its number"; "FULL: 10 TEETH" */
    private static void caughtUpToTen() {
        for (int told = 0; told <= 10; told++) {
            TeethForCoins x = Check.market("L11" + "T5L93".repeat(told));
            for (int number = told; number < 10; number++) {
                CHECK.due("19 its number", x.caught(1, number), number);
            }
            CHECK.due("19 FULL", x.caught(1, 1L), -4);
            CHECK.due("19 UNKNOWN ahead of FULL", x.caught(4, 1L), -1);
            CHECK.due("19 ten", x.about(0), 10);
        }
    }

    private static void caughtForPeople() {
        TeethForCoins x = new TeethForCoins();
        CHECK.due("19 nobody ahead of 0", x.caught(-1, 1L), -1);
        CHECK.due("19 nobody behind 3", x.caught(4, 1L), -1);
        CHECK.due("19 none came", x.about(0), 0);
        for (int person = 0; person < 4; person++) {
            CHECK.due("19 for " + person, x.caught(person, 1L), person);
            CHECK.due("19 OWNER", x.tooth(person, 3), person);
            CHECK.due("19 TRACE", x.trace(person, 0), person);
            CHECK.due("19 no more TRACE", x.trace(person, 1), -9);
            CHECK.due("19 its WEAR is as it should be", x.should(person, 5), 0);
        }
    }

    /** "n TEETH (1 .. 10)"; "BAD: n" */
    private static void washedOneToTen() {
        for (int n = -1; n <= 12; n++) {
            TeethForCoins x = new TeethForCoins();
            CHECK.due("20 " + n, x.washed(n, 4L), n < 1 || n > 10 ? -2 : n);
            CHECK.due("20 TEETH", x.about(0), n < 1 || n > 10 ? 0 : n);
        }
    }

    /** "FULL: there would be more than 10 (none comes)" */
    private static void washedUpToTen() {
        for (int told = 0; told <= 10; told++) {
            for (int n = 1; n <= 10; n++) {
                TeethForCoins x = Check.market("L11" + "T5L93".repeat(told));
                CHECK.due("20 " + told + " and " + n, x.washed(n, -4L), told + n > 10 ? -4 : told + n);
                CHECK.due("20 TEETH", x.about(0), told + n > 10 ? told : told + n);
            }
            TeethForCoins x = Check.market("L11" + "T5L93".repeat(told));
            CHECK.due("20 BAD ahead of FULL", x.washed(11, 4L), -2);
            CHECK.due("20 BAD ahead of FULL", x.washed(0, 4L), -2);
        }
    }

    /** "for PEOPLE 0, 1, 2, 3, 0, .. (x of one is the SEED of the next)" */
    private static void washedOneFromTheOther() {
        for (int told = 0; told <= 3; told++) {
            for (long seed : new long[] {0, -1, 77, Long.MIN_VALUE, Long.MAX_VALUE}) {
                TeethForCoins x = Check.market("L11" + "B5R93".repeat(told));
                x.washed(10 - told, seed);
                TeethForCoins one = new TeethForCoins();
                long of = seed;
                for (int i = 0; i < 10 - told; i++) {
                    one.caught(i & 3, of);
                    for (int what = 0; what < 6; what++) {
                        CHECK.due("20 as caught, " + what, x.tooth(told + i, what), one.tooth(i, what));
                    }
                    CHECK.due("20 TRACE", x.trace(told + i, 0), i & 3);
                    CHECK.due("20 no more TRACE", x.trace(told + i, 1), -9);
                    of = of * TIMES + MORE;
                }
            }
        }
    }

    /** "LIFE above a WORTH m (1 .. 999)"; "BAD: m" */
    private static void lifeAboveOneTo999() {
        TeethForCoins x = Check.market("L19T9L00");
        CHECK.due("21 m is -1", x.life(0, -1), -2);
        CHECK.due("21 m is 0", x.life(0, 0), -2);
        CHECK.due("21 m is 1", x.life(0, 1), 89);
        CHECK.due("21 m is 810", x.life(0, 810), 0);
        CHECK.due("21 m is 811", x.life(0, 811), -9);
        CHECK.due("21 m is 999", x.life(0, 999), -9);
        CHECK.due("21 m is 1000", x.life(0, 1000), -2);
        CHECK.due("21 no such TOOTH", x.life(1, 1), -1);
        CHECK.due("21 no such TOOTH", x.life(-1, 1), -1);
        CHECK.due("21 UNKNOWN ahead of BAD", x.life(1, 1000), -1);
        TeethForCoins without = Check.market("L09T9L00");
        CHECK.due("21 without LOSS, m is 0", without.life(0, 0), -2);
        CHECK.due("21 without LOSS, m is 1000", without.life(0, 1000), -2);
    }

    /** "how often a TOOTH can be HANDLED so that it is worth m or more still"; "NONE: it is not now" */
    private static void lifeUntilWorthIsLess() {
        String[] markets = {"L11T9R00", "L32T4L10", "L99T9L90", "L92B1L10", "L51T3R60", "L13T1L90", "L23T1R70"};
        for (String market : markets) {
            TeethForCoins asked = Check.market(market);
            for (int m = 1; m <= 130; m++) {
                TeethForCoins x = Check.market(market);
                int times = -1;
                int worth = x.tooth(0, 4);
                for (int i = 0; i < 100 && worth >= m; i++) {
                    times++;
                    worth = x.handle(0);
                }
                CHECK.due("21 of " + market + " above " + m, asked.life(0, m), times < 0 ? -9 : times);
            }
            CHECK.due("21 asks alone", asked.tooth(0, 2), market.charAt(6) - '0');
        }
    }

    /** "(999: for ever; NONE: it is not now)" */
    private static void lifeForEver() {
        TeethForCoins x = Check.market("L03T1L00T5R90B9L93");
        CHECK.due("21 for ever", x.life(0, 1), 999);
        CHECK.due("21 for ever at its WORTH", x.life(0, 30), 999);
        CHECK.due("21 not now", x.life(0, 31), -9);
        CHECK.due("21 for ever at its WORTH", x.life(1, 50), 999);
        CHECK.due("21 not now", x.life(1, 51), -9);
        CHECK.due("21 for ever at its WORTH", x.life(2, 270), 999);
        CHECK.due("21 not now", x.life(2, 271), -9);
        for (int i = 0; i < 98; i++) {
            x.handle(0);
        }
        CHECK.due("21 at 98", x.life(0, 30), 999);
        x.handle(0);
        CHECK.due("21 at 99", x.life(0, 30), 999);
        CHECK.due("21 not now", x.life(0, 31), -9);
        // The most that is not for ever.
        CHECK.due("21 89", Check.market("L11T9L00").life(0, 1), 89);
        CHECK.due("21 worth nothing", Check.market("L91T1R90").life(0, 1), -9);
    }

    /** "each time it had another one (8 at most: what is beyond is not told)" */
    private static void traceOfEight() {
        TeethForCoins x = Check.market("L01T5R02");
        int[] owners = {2, 3, 0, 1, 3, 2, 1, 0, 3};
        for (int had = 1; had < 9; had++) {
            for (int i = 0; i < 8; i++) {
                CHECK.due("22 the " + i + "-th of " + had, x.trace(0, i), i < had ? owners[i] : -9);
            }
            CHECK.due("22 the ninth", x.trace(0, 8), -9);
            x.pay(owners[had - 1], owners[had], 50);
        }
        CHECK.due("7 it has a ninth OWNER", x.tooth(0, 3), 3);
        CHECK.due("22 the ninth is not told", x.trace(0, 8), -9);
        CHECK.due("22 the eighth", x.trace(0, 7), 0);
        CHECK.due("22 ahead of the first", x.trace(0, -1), -9);
        CHECK.due("22 no such TOOTH", x.trace(1, 0), -1);
        CHECK.due("22 no such TOOTH", x.trace(-1, 0), -1);
        CHECK.due("22 UNKNOWN, not NONE", x.trace(1, 8), -1);
    }

    /** The TRACES of TEETH side by side are each its own, and new ones have no older one's. */
    private static void traceOfWhatComes() {
        TeethForCoins x = Check.market("L01" + "T5R00".repeat(2));
        for (int i = 0; i < 8; i++) {
            x.pay(i % 2, 1 - i % 2, 100);
        }
        x.caught(3, 1L);
        CHECK.due("22 the eighth of the first", x.trace(0, 7), 1);
        CHECK.due("22 the eighth of the second", x.trace(1, 7), 1);
        CHECK.due("22 of one that came", x.trace(2, 0), 3);
        CHECK.due("22 no more of it", x.trace(2, 1), -9);
        x.market();
        CHECK.due("22 as told", x.trace(1, 0), 0);
        CHECK.due("22 as told", x.trace(1, 1), -9);
        // Paid and paid back, it had another OWNER twice.
        x.pay(0, 1, 50);
        x.pay(1, 0, 50);
        CHECK.due("22 back", x.trace(0, 2), 0);
        // HANDLED, BITTEN it has no other one; one that is not paid has none.
        x.handle(0);
        x.bite(0);
        CHECK.due("22 no more", x.trace(0, 3), -9);
        CHECK.due("22 not paid", x.trace(1, 1), -9);
    }

    /** "INFLATED by z (0 .. 9999)"; "BAD: z" */
    private static void inflatedByZeroTo9999() {
        TeethForCoins x = Check.market("L11T1R91T1R93G015G991");
        CHECK.due("23 z is -1", x.inflated(0, -1), -2);
        CHECK.due("23 z is 0", x.inflated(0, 0), 1);
        CHECK.due("23 z is 0", x.inflated(1, 0), 99);
        CHECK.due("23 z is 1", x.inflated(1, 1), 148);
        CHECK.due("23 z is 9999", x.inflated(0, 9999), 5000);
        CHECK.due("23 z is 9999", x.inflated(1, 9999), 495049);
        CHECK.due("23 z is 10000", x.inflated(1, 10000), -2);
        CHECK.due("23 no such GOOD", x.inflated(2, 0), -1);
        CHECK.due("23 no such GOOD", x.inflated(-1, 0), -1);
        CHECK.due("23 UNKNOWN ahead of BAD", x.inflated(2, 10000), -1);
        CHECK.due("23 the greatest", Check.market("L11T1R92G990").inflated(0, 9999), 990000);
    }

    /** "the price of a GOOD times all WORTH and z, by all WORTH (cut)" */
    private static void inflatedIsCut() {
        TeethForCoins x = Check.market("L11T3R00B4R01G100G070");
        CHECK.due("23 10 and 0 of 7", x.inflated(0, 6), 10);
        CHECK.due("23 11", x.inflated(0, 7), 11);
        CHECK.due("23 13 less a little", x.inflated(0, 20), 12);
        CHECK.due("23 13", x.inflated(0, 21), 13);
        CHECK.due("23 8 less a little", x.inflated(1, 9), 7);
        CHECK.due("23 8", x.inflated(1, 10), 8);
        TeethForCoins much = Check.market("L09" + "T9L00".repeat(10) + "G990");
        CHECK.due("23 much WORTH", much.inflated(0, 9999), 99 * 18099 / 8100);
        CHECK.due("23 much WORTH", much.inflated(0, 81), 99);
        CHECK.due("23 much WORTH", much.inflated(0, 82), 100);
    }

    /** "LATE where there is none." */
    private static void inflatedWithoutWorth() {
        TeethForCoins x = Check.market("L51T1R10B1L12G505");
        CHECK.due("23 a little", x.inflated(0, 1), 55);
        x.handle(0);
        CHECK.due("23 less", x.inflated(0, 1), 60);
        x.handle(1);
        CHECK.due("23 LATE", x.inflated(0, 1), -3);
        CHECK.due("23 LATE", x.inflated(0, 0), -3);
        CHECK.due("23 BAD ahead of LATE", x.inflated(0, 10000), -2);
        CHECK.due("23 UNKNOWN ahead of LATE", x.inflated(1, 0), -1);
        CHECK.due("23 LATE: no TEETH", Check.market("L11G505").inflated(0, 0), -3);
        CHECK.due("23 UNKNOWN: no GOODS", new TeethForCoins().inflated(0, 0), -1);
    }
}
