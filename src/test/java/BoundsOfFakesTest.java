/**
 * Promises 24 to 31 sentence by sentence: of each one that names a bound, just inside it and just outside it. That what
 * is refused changes nothing is held by RefusalTest.
 */
public final class BoundsOfFakesTest {
    private static final Check CHECK = new Check("BoundsOfFakesTest");

    public static void main(String[] args) {
        doubtByTenths();
        doubtOfThumbs();
        doubtThatCanNotBe();
        doubtInLeastTerms();
        amongOneToTen();
        amongByTenths();
        amongKOrMore();
        rateOfMonies();
        rateOneTo99();
        ringOfTwoToFour();
        ringFromTheLeastOn();
        ringOfTheGreatestGain();
        ringOfLikeOnes();
        ringOfGreatNumbers();
        shouldZeroTo99();
        shouldAsItIsAtFirst();
        stolenIsMore();
        stolenAsBits();
        thiefByMost();
        thiefOfLikeOnes();
        CHECK.end();
    }

    private static TeethForCoins any() {
        return new TeethForCoins();
    }

    /** Above and below in one text, as refusals of both are told likewise. */
    private static void doubt(int f, int g, int h, int n, int k, long above, long below) {
        String what = "24 doubt " + f + " " + g + " " + h + " " + n + " " + k;
        CHECK.due(what + ": above", any().doubt(f, g, h, n, k, true), above);
        CHECK.due(what + ": below", any().doubt(f, g, h, n, k, false), below);
    }

    /** "by f tenths", "of a FAKE by g tenths, of a true one by h tenths": 0 .. 10. */
    private static void doubtByTenths() {
        doubt(-1, 5, 5, 1, 1, -2, -2);
        doubt(0, 5, 5, 1, 1, 0, 1);
        doubt(1, 5, 5, 1, 1, 1, 10);
        doubt(9, 5, 5, 1, 1, 9, 10);
        doubt(10, 5, 5, 1, 1, 1, 1);
        doubt(11, 5, 5, 1, 1, -2, -2);
        doubt(5, -1, 5, 1, 1, -2, -2);
        doubt(5, 0, 5, 1, 1, 0, 1);
        doubt(5, 0, 5, 1, 0, 2, 3);
        doubt(5, 10, 5, 1, 1, 2, 3);
        doubt(5, 10, 5, 1, 0, 0, 1);
        doubt(5, 11, 5, 1, 1, -2, -2);
        doubt(5, 5, -1, 1, 1, -2, -2);
        doubt(5, 5, 0, 1, 1, 1, 1);
        doubt(5, 5, 0, 1, 0, 1, 3);
        doubt(5, 5, 10, 1, 1, 1, 3);
        doubt(5, 5, 10, 1, 0, 1, 1);
        doubt(5, 5, 11, 1, 1, -2, -2);
        // The least chance of all that can be still is one.
        doubt(1, 1, 0, 1, 1, 1, 1);
        doubt(9, 1, 9, 1, 1, 1, 2);
    }

    /** "of n thumbs (1 .. 6) k (0 .. n) say so" */
    private static void doubtOfThumbs() {
        doubt(5, 5, 5, 0, 0, -2, -2);
        doubt(5, 5, 5, -1, -1, -2, -2);
        doubt(5, 5, 5, 7, 0, -2, -2);
        doubt(5, 5, 5, 7, 7, -2, -2);
        long many = 1;
        for (int n = 1; n <= 6; n++) {
            many *= 2;
            doubt(5, 8, 4, n, n, many, many + 1);
            doubt(5, 8, 6, n, 0, 1, many + 1);
            doubt(5, 8, 4, n, n + 1, -2, -2);
            doubt(5, 8, 4, n, -1, -2, -2);
        }
        // 8 * 8 * 2 of that and 4 * 4 * 6.
        doubt(5, 8, 4, 3, 2, 4, 7);
        doubt(5, 8, 4, 3, 1, 2, 11);
    }

    /** "LATE: it can not be" */
    private static void doubtThatCanNotBe() {
        doubt(10, 0, 5, 6, 1, -3, -3);
        doubt(10, 0, 5, 6, 0, 1, 1);
        doubt(9, 0, 5, 6, 1, 0, 1);
        doubt(10, 1, 5, 6, 1, 1, 1);
        doubt(10, 10, 5, 6, 5, -3, -3);
        doubt(10, 10, 5, 6, 6, 1, 1);
        doubt(10, 9, 5, 6, 5, 1, 1);
        doubt(0, 5, 0, 6, 1, -3, -3);
        doubt(0, 5, 0, 6, 0, 0, 1);
        doubt(0, 5, 1, 6, 1, 0, 1);
        doubt(1, 5, 0, 6, 1, 1, 1);
        doubt(0, 5, 10, 6, 5, -3, -3);
        doubt(0, 5, 10, 6, 6, 0, 1);
        doubt(5, 0, 0, 2, 1, -3, -3);
        doubt(5, 10, 10, 2, 1, -3, -3);
        doubt(5, 0, 10, 2, 1, -3, -3);
        doubt(5, 10, 0, 2, 1, -3, -3);
        doubt(5, 0, 10, 2, 0, 1, 1);
        doubt(5, 0, 10, 2, 2, 0, 1);
        // BAD ahead of LATE.
        doubt(10, 0, 5, 6, 7, -2, -2);
        doubt(10, 0, 11, 6, 1, -2, -2);
    }

    /** "FRACTIONS are told above (upper = true), below, in least terms" */
    private static void doubtInLeastTerms() {
        doubt(2, 4, 1, 1, 1, 1, 2);
        doubt(4, 6, 4, 2, 1, 2, 5);
        doubt(1, 9, 9, 6, 3, 1, 10);
        // 9 to the 6th of that and 9.
        doubt(1, 9, 1, 6, 6, 59049, 59050);
        doubt(9, 1, 9, 6, 6, 1, 59050);
    }

    private static void among(int n, int f, int k, long above, long below) {
        String what = "25 among " + n + " " + f + " " + k;
        CHECK.due(what + ": above", any().among(n, f, k, true), above);
        CHECK.due(what + ": below", any().among(n, f, k, false), below);
    }

    /** "AMONG n TEETH (1 .. 10)" */
    private static void amongOneToTen() {
        among(-1, 1, 0, -2, -2);
        among(0, 1, 0, -2, -2);
        long below = 1;
        for (int n = 1; n <= 10; n++) {
            below *= 10;
            among(n, 1, n, 1, below);
            among(n, 9, 1, below - 1, below);
        }
        among(11, 1, 0, -2, -2);
        among(11, 1, 11, -2, -2);
    }

    private static void amongByTenths() {
        among(2, -1, 1, -2, -2);
        among(2, 0, 1, 0, 1);
        among(2, 0, 0, 1, 1);
        among(2, 1, 1, 19, 100);
        among(2, 9, 1, 99, 100);
        among(2, 10, 1, 1, 1);
        among(2, 10, 2, 1, 1);
        among(2, 11, 1, -2, -2);
    }

    /** "k or more are"; "BAD: n, f, k (0 .. n)" */
    private static void amongKOrMore() {
        among(4, 5, -1, -2, -2);
        among(4, 5, 0, 1, 1);
        among(4, 5, 1, 15, 16);
        among(4, 5, 2, 11, 16);
        among(4, 5, 3, 5, 16);
        among(4, 5, 4, 1, 16);
        among(4, 5, 5, -2, -2);
        for (int n = 1; n <= 10; n++) {
            among(n, 3, 0, 1, 1);
            among(n, 3, -1, -2, -2);
            among(n, 3, n + 1, -2, -2);
        }
        among(10, 5, 5, 319, 512);
        among(10, 5, 10, 1, 1024);
    }

    /** "MONIES are 0 .. 3"; "UNKNOWN: monies; BAD: both are one" */
    private static void rateOfMonies() {
        for (int money = -1; money <= 4; money++) {
            for (int other = -1; other <= 4; other++) {
                boolean no = money < 0 || money > 3 || other < 0 || other > 3;
                int due = no ? -1 : money == other ? -2 : 101;
                CHECK.due("26 of " + money + " for " + other, any().rate(money, other, 2, 3), due);
                CHECK.due("26 ahead of BAD", any().rate(money, other, 100, 3), no ? -1 : -2);
            }
        }
        // The other way round is another RATE.
        TeethForCoins x = any();
        x.rate(2, 3, 5, 6);
        CHECK.due("26 the other way round", x.rate(3, 2, 7, 8), 101);
        CHECK.due("26 this way", x.rate(2, 3, 1, 1), 506);
        CHECK.due("26 the other way round", x.rate(3, 2, 1, 1), 708);
    }

    /** "(1 .. 99 each; 1 for 1 at first)"; "100 times the a that was, and the b" */
    private static void rateOneTo99() {
        TeethForCoins x = any();
        int[][] abDue = {{1, 99, 101}, {99, 1, 199}, {99, 99, 9901}, {1, 1, 9999}, {2, 98, 101}, {0, 5, -2}, {5, 0, -2},
            {100, 5, -2}, {5, 100, -2}, {-1, 5, -2}, {5, -1, -2}, {0, 0, -2}, {100, 100, -2}, {1, 1, 298}};
        for (int[] of : abDue) {
            CHECK.due("26 " + of[0] + " for " + of[1], x.rate(1, 0, of[0], of[1]), of[2]);
        }
    }

    private static void ring(String what, TeethForCoins x, long above, long below, int... monies) {
        CHECK.due("27 " + what + ": above", x.ring(true), above);
        CHECK.due("27 " + what + ": below", x.ring(false), below);
        CHECK.due("28 " + what + ": ahead of the first", x.ringAt(-1), -9);
        for (int i = 0; i <= 5; i++) {
            CHECK.due("28 " + what + ": " + i, x.ringAt(i), i < monies.length ? monies[i] : -9);
        }
    }

    /** Every way from one MONEY to another one loses, but those that are told then. */
    private static TeethForCoins losing() {
        TeethForCoins x = any();
        for (int money = 0; money < 4; money++) {
            for (int other = 0; other < 4; other++) {
                x.rate(money, other, 1, 9);
            }
        }
        return x;
    }

    /** "two to four MONIES, changed one for the next, the last for the first" */
    private static void ringOfTwoToFour() {
        CHECK.due("28 at first, asked alone", any().ringAt(1), 1);
        CHECK.due("28 at first, asked alone", any().ringAt(2), -9);
        ring("at first", any(), 1, 1, 0, 1);
        TeethForCoins x = losing();
        ring("all lose", x, 1, 81, 0, 1);
        x.rate(2, 3, 9, 2);
        x.rate(3, 2, 3, 1);
        ring("of two", x, 27, 2, 2, 3);
        x = losing();
        x.rate(1, 2, 3, 1);
        x.rate(2, 3, 3, 1);
        x.rate(3, 1, 3, 2);
        ring("of three", x, 27, 2, 1, 2, 3);
        x = losing();
        x.rate(0, 1, 3, 1);
        x.rate(1, 2, 3, 1);
        x.rate(2, 3, 3, 1);
        x.rate(3, 0, 3, 2);
        ring("of four", x, 81, 2, 0, 1, 2, 3);
        // Without the last for the first it is no RING.
        x.rate(3, 0, 1, 99);
        ring("the first of three", x, 1, 1, 0, 1, 2);
    }

    /** "from the least on": every RING of three and of four there is, told from each of its MONIES. */
    private static void ringFromTheLeastOn() {
        int[][] rings = {{0, 1}, {0, 2}, {0, 3}, {1, 2}, {1, 3}, {2, 3}, {0, 1, 2}, {0, 2, 1}, {0, 1, 3}, {0, 3, 1},
            {0, 2, 3}, {0, 3, 2}, {1, 2, 3}, {1, 3, 2}, {0, 1, 2, 3}, {0, 1, 3, 2}, {0, 2, 1, 3}, {0, 2, 3, 1},
            {0, 3, 1, 2}, {0, 3, 2, 1}};
        for (int[] monies : rings) {
            TeethForCoins x = losing();
            long gain = 1;
            for (int i = 0; i < monies.length; i++) {
                x.rate(monies[i], monies[(i + 1) % monies.length], 2, 1);
                gain *= 2;
            }
            ring("the only one that gains", x, gain, 1, monies);
        }
    }

    /** "with the greatest GAIN" */
    private static void ringOfTheGreatestGain() {
        TeethForCoins x = losing();
        x.rate(0, 1, 3, 2);
        x.rate(1, 0, 1, 1);
        ring("of one", x, 3, 2, 0, 1);
        x.rate(2, 3, 50, 33);
        x.rate(3, 2, 1, 1);
        ring("a little greater", x, 50, 33, 2, 3);
        x.rate(2, 3, 49, 33);
        ring("a little less", x, 3, 2, 0, 1);
        // 1 for 1 there and back is no GAIN, but greater than a loss.
        TeethForCoins y = losing();
        y.rate(1, 3, 1, 1);
        y.rate(3, 1, 1, 1);
        ring("no loss", y, 1, 1, 1, 3);
        // In least terms.
        y.rate(1, 3, 6, 4);
        y.rate(3, 1, 10, 15);
        ring("no gain", y, 1, 1, 1, 3);
        y.rate(3, 1, 10, 5);
        ring("6 of 4 and 10 of 5", y, 3, 1, 1, 3);
    }

    /** "of like ones with fewest MONIES, then the first (by its first MONEY, its second ..)" */
    private static void ringOfLikeOnes() {
        TeethForCoins x = losing();
        x.rate(0, 1, 2, 1);
        x.rate(1, 2, 2, 1);
        x.rate(2, 0, 1, 1);
        x.rate(2, 3, 4, 1);
        x.rate(3, 2, 1, 1);
        ring("fewest, though not the first", x, 4, 1, 2, 3);
        x = losing();
        x.rate(1, 3, 2, 1);
        x.rate(3, 1, 2, 1);
        x.rate(0, 3, 4, 1);
        x.rate(3, 0, 1, 1);
        // 0 3 and 1 3 gain 4, 0 3 1 does not.
        ring("the first MONEY", x, 4, 1, 0, 3);
        x = losing();
        for (int[] of : new int[][] {{1, 2}, {2, 3}, {3, 1}, {2, 1}, {3, 2}, {1, 3}}) {
            x.rate(of[0], of[1], 2, 1);
        }
        ring("the second MONEY of three", x, 8, 1, 1, 2, 3);
        x = any();
        for (int money = 0; money < 4; money++) {
            for (int other = 0; other < 4; other++) {
                x.rate(money, other, 2, 1);
            }
        }
        ring("of four all are like", x, 16, 1, 0, 1, 2, 3);
        x.rate(1, 2, 1, 1);
        ring("the third MONEY of four", x, 16, 1, 0, 1, 3, 2);
        x.rate(1, 3, 1, 1);
        ring("the second MONEY of four", x, 16, 1, 0, 2, 3, 1);
    }

    /** A product of four RATES has up to eight figures, of two such products sixteen. */
    private static void ringOfGreatNumbers() {
        TeethForCoins x = any();
        for (int money = 0; money < 4; money++) {
            for (int other = 0; other < 4; other++) {
                x.rate(money, other, 99, 1);
            }
        }
        ring("the greatest", x, 96059601L, 1, 0, 1, 2, 3);
        for (int money = 0; money < 4; money++) {
            for (int other = 0; other < 4; other++) {
                x.rate(money, other, 1, 99);
            }
        }
        ring("the least", x, 1, 9801, 0, 1);
        x.rate(0, 2, 99, 98);
        x.rate(2, 1, 97, 98);
        x.rate(1, 3, 97, 96);
        x.rate(3, 0, 95, 96);
        ring("of great terms", x, 99L * 97 * 97 * 95 / 9, 98L * 98 * 96 * 96 / 9, 0, 2, 1, 3);
    }

    /** "should be (0 .. 99)"; "BAD: w (0 .. 99)" */
    private static void shouldZeroTo99() {
        TeethForCoins x = Check.market("L11T5R30T4L92");
        int[][] wDue = {{0, 3}, {99, 0}, {-1, -2}, {100, -2}, {Integer.MIN_VALUE, -2}, {Integer.MAX_VALUE, -2},
            {1, 99}, {98, 1}, {3, 98}};
        for (int[] of : wDue) {
            CHECK.due("29 w is " + of[0], x.should(0, of[0]), of[1]);
        }
        for (int no : new int[] {-1, 2}) {
            CHECK.due("29 no TOOTH " + no, x.should(no, 0), -1);
            CHECK.due("29 UNKNOWN ahead of BAD", x.should(no, 100), -1);
        }
        CHECK.due("29 the last is as it was", x.should(1, 9), 9);
    }

    /** "as it is at first, and when a TOOTH comes" */
    private static void shouldAsItIsAtFirst() {
        for (int wear = 0; wear <= 9; wear++) {
            TeethForCoins x = Check.market("L11T5R" + wear + "0");
            x.caught(0, wear);
            x.washed(1, wear);
            CHECK.due("30 none at first", x.stolen(), 0);
            for (int tooth = 0; tooth < 3; tooth++) {
                x.handle(tooth);
            }
            CHECK.due("30 all of them", x.stolen(), 7);
            CHECK.due("29 as told", x.should(0, 99), wear);
            CHECK.due("29 of a caught one", x.should(1, 99), 0);
            CHECK.due("29 of one washed ashore", x.should(2, 99), 0);
            x.market();
            x.caught(0, wear);
            CHECK.due("29 as told anew", x.should(0, 0), wear);
            CHECK.due("29 of a caught one", x.should(1, 0), 0);
        }
    }

    /** "STOLEN: TEETH that have more WEAR than they should" */
    private static void stolenIsMore() {
        TeethForCoins x = Check.market("L11T5R52");
        int[][] wDue = {{4, 1}, {5, 0}, {6, 0}, {0, 1}, {99, 0}};
        for (int[] of : wDue) {
            x.should(0, of[0]);
            CHECK.due("30 should be " + of[0], x.stolen(), of[1]);
            CHECK.due("31 should be " + of[0], x.thief(), of[1] == 1 ? 2 : -9);
        }
        x.should(0, 5);
        x.handle(0);
        CHECK.due("30 HANDLED", x.stolen(), 1);
        x.bite(0);
        CHECK.due("30 BITTEN", x.stolen(), 0);
        x.should(0, 0);
        CHECK.due("30 0 of 0", x.stolen(), 0);
        x.pay(2, 3, x.tooth(0, 4));
        CHECK.due("30 paid", x.stolen(), 1);
        CHECK.due("31 who owns it", x.thief(), 3);
        x.undo();
        CHECK.due("30 undone", x.stolen(), 0);
        CHECK.due("31 undone", x.thief(), -9);
    }

    private static void stolenAsBits() {
        TeethForCoins x = Check.market("L11" + "T5R51".repeat(10));
        for (int tooth = 0; tooth < 10; tooth++) {
            int was = x.should(tooth, 4);
            CHECK.due("30 the TOOTH " + tooth, x.stolen(), 1 << tooth);
            x.should(tooth, was);
        }
        for (int tooth = 0; tooth < 10; tooth++) {
            x.should(tooth, 0);
        }
        CHECK.due("30 all ten", x.stolen(), 1023);
        CHECK.due("31 all ten", x.thief(), 1);
        CHECK.due("30 no TEETH", any().stolen(), 0);
        CHECK.due("31 no TEETH", any().thief(), -9);
    }

    /** "the PERSON that owns those with the most WEAR too much together" */
    private static void thiefByMost() {
        TeethForCoins x = Check.market("L11T5R50T5R51T5R51T5R92T5R93");
        x.should(0, 0);
        CHECK.due("31 5", x.thief(), 0);
        x.should(1, 2);
        x.should(2, 3);
        CHECK.due("31 5 and 3 + 2", x.thief(), 0);
        x.should(2, 2);
        CHECK.due("31 5 and 3 + 3", x.thief(), 1);
        x.should(3, 3);
        CHECK.due("31 6 and 6", x.thief(), 1);
        x.handle(3);
        CHECK.due("31 6 and 7", x.thief(), 2);
        x.should(4, 0);
        CHECK.due("31 7 and 9", x.thief(), 3);
        // More than it should have, but WEAR that is missing elsewhere makes up for nothing.
        TeethForCoins y = Check.market("L11T5R50T5R50T5R51");
        y.should(0, 3);
        y.should(1, 99);
        y.should(2, 4);
        CHECK.due("31 2 and 1", y.thief(), 0);
        TeethForCoins z = Check.market("L11T5R13");
        z.should(0, 0);
        CHECK.due("31 1 alone", z.thief(), 3);
        for (int i = 0; i < 98; i++) {
            z.handle(0);
        }
        CHECK.due("31 99 alone", z.thief(), 3);
    }

    /** "of like ones the least; NONE: none is STOLEN" */
    private static void thiefOfLikeOnes() {
        TeethForCoins x = Check.market("L11T5R13T5R12T5R11T5R10");
        CHECK.due("31 NONE", x.thief(), -9);
        for (int tooth = 0; tooth < 4; tooth++) {
            x.should(tooth, 0);
            CHECK.due("31 the least", x.thief(), 3 - tooth);
        }
        x.handle(0);
        CHECK.due("31 the most", x.thief(), 3);
        for (int tooth = 0; tooth < 4; tooth++) {
            x.should(tooth, 2);
        }
        CHECK.due("31 NONE", x.thief(), -9);
    }
}
