/**
 * Promises 32 and 33 sentence by sentence, and a run of 512 calls: of each sentence that names a bound, just inside it
 * and just outside it. That what is refused changes nothing is held by RefusalTest.
 */
public final class BoundsOfSlotsTest {
    private static final Check CHECK = new Check("BoundsOfSlotsTest");

    public static void main(String[] args) {
        slotsZeroAndOne();
        noneWereKept();
        keptWithoutTeeth();
        keptWithTen();
        keptWithEightBargains();
        keptWithoutBargains();
        keptWithTracesOfEight();
        keptWithWhatWearShouldBe();
        keptWithRates();
        lawAndGoodsAreAsTheyAre();
        keptOverWhatWasKept();
        slotsApart();
        runOf512();
        CHECK.end();
    }

    /** "SLOTS 0 .. 1" */
    private static void slotsZeroAndOne() {
        TeethForCoins x = Check.market("L11T5L00");
        for (int slot = -2; slot <= 3; slot++) {
            boolean is = slot == 0 || slot == 1;
            CHECK.due("33 ahead of it " + slot, x.again(slot), is ? -3 : -1);
            CHECK.due("32 " + slot, x.keep(slot), is ? 1 : -1);
            CHECK.due("33 behind it " + slot, x.again(slot), is ? 1 : -1);
        }
        for (int no : new int[] {Integer.MIN_VALUE, Integer.MAX_VALUE}) {
            CHECK.due("32 " + no, x.keep(no), -1);
            CHECK.due("33 " + no, x.again(no), -1);
        }
    }

    /** "LATE: none were kept." */
    private static void noneWereKept() {
        for (int slot = 0; slot <= 1; slot++) {
            TeethForCoins x = Check.market("L11T5L00");
            x.keep(1 - slot);
            CHECK.due("33 LATE", x.again(slot), -3);
            CHECK.due("33 the other one", x.again(1 - slot), 1);
            x.keep(slot);
            CHECK.due("33 now", x.again(slot), 1);
            x.market();
            CHECK.due("33 after another MARKET", x.again(slot), 1);
        }
    }

    /** "how many TEETH": none at all are kept as well. */
    private static void keptWithoutTeeth() {
        TeethForCoins x = new TeethForCoins();
        CHECK.due("32 none", x.keep(0), 0);
        x.washed(10, 1L);
        x.handle(0);
        x.handle(3);
        CHECK.due("33 none", x.again(0), 0);
        CHECK.due("33 none", x.about(0), 0);
        CHECK.due("33 none", x.tooth(0, 0), -1);
        CHECK.due("33 none is STOLEN", x.stolen(), 0);
        CHECK.due("33 none is STOLEN", x.thief(), -9);
        CHECK.due("19 the first once more", x.caught(2, 1L), 0);
        CHECK.due("19 without WEAR", x.tooth(0, 2), 0);
        CHECK.due("19 without a TRACE", x.trace(0, 1), -9);
    }

    private static void keptWithTen() {
        TeethForCoins x = Check.market("L11" + "T5R31".repeat(9) + "B1L93");
        CHECK.due("32 ten", x.keep(1), 10);
        x.wipe();
        Check.tell(x, "L11");
        x.market();
        CHECK.due("33 ten", x.again(1), 10);
        CHECK.due("33 the tenth", x.tooth(9, 0), 1);
        CHECK.due("33 the tenth", x.tooth(9, 1), 1);
        CHECK.due("33 the tenth", x.tooth(9, 2), 9);
        CHECK.due("33 the tenth", x.tooth(9, 3), 3);
        CHECK.due("33 the tenth", x.tooth(9, 5), 1);
        CHECK.due("33 the tenth", x.trace(9, 0), 3);
        CHECK.due("33 an eleventh", x.tooth(10, 0), -1);
        CHECK.due("19 FULL", x.caught(0, 1L), -4);
        CHECK.due("20 FULL", x.washed(1, 1L), -4);
    }

    /** "BARGAINS" are kept, each with what was ahead of it. */
    private static void keptWithEightBargains() {
        TeethForCoins x = Check.market("L01T5R00T2R31");
        for (int made = 0; made < 8; made++) {
            x.pay(made % 2, 1 - made % 2, 30);
        }
        x.keep(0);
        for (int i = 0; i < 8; i++) {
            x.undo();
        }
        // Other BARGAINS in the same row must not come into the SLOT.
        for (int i = 0; i < 8; i++) {
            x.handle(0);
            x.pay(2, 3, 0);
        }
        CHECK.due("33 two TEETH", x.again(0), 2);
        CHECK.due("33 eight BARGAINS", x.about(4), 8);
        CHECK.due("33 FULL", x.pay(0, 1, 0), -4);
        for (int left = 7; left >= 0; left--) {
            CHECK.due("33 undone", x.undo(), left);
            CHECK.due("33 OWNER", x.tooth(0, 3), left % 2);
            CHECK.due("33 WEAR", x.tooth(0, 2), left);
            CHECK.due("33 TRACE", x.trace(1, left + 1), -9);
            CHECK.due("33 TRACE", x.trace(1, left), 1 - left % 2);
        }
        CHECK.due("33 LATE", x.undo(), -3);
        CHECK.due("33 once more", x.again(0), 2);
        CHECK.due("33 eight BARGAINS", x.about(4), 8);
        CHECK.due("33 the last one", x.undo(), 7);
        CHECK.due("33 the last one", x.tooth(1, 2), 10);
    }

    private static void keptWithoutBargains() {
        TeethForCoins x = Check.market("L01T5R00");
        x.keep(1);
        for (int i = 0; i < 8; i++) {
            x.pay(0, 1, 0);
        }
        x.again(1);
        CHECK.due("33 none", x.about(4), 0);
        CHECK.due("33 LATE", x.undo(), -3);
        CHECK.due("33 room for eight", x.pay(0, 1, 50), 1);
        // One that is made after it is undone as after any other.
        CHECK.due("33 undone", x.undo(), 0);
        CHECK.due("33 undone", x.tooth(0, 3), 0);
        // A BARGAIN of another MARKET comes back with its SLOT.
        x.pay(0, 3, 50);
        x.keep(1);
        x.wipe();
        Check.tell(x, "L92T1L91T1L91");
        x.market();
        x.again(1);
        CHECK.due("33 undone over a MARKET", x.undo(), 0);
        CHECK.due("33 undone over a MARKET", x.tooth(0, 3), 0);
        CHECK.due("33 one TOOTH", x.about(0), 1);
    }

    /** "TEETH (with TRACES ..)" */
    private static void keptWithTracesOfEight() {
        TeethForCoins x = Check.market("L01T5R00");
        for (int i = 0; i < 7; i++) {
            x.pay(i % 4, (i + 1) % 4, 50);
        }
        x.keep(0);
        x.market();
        x.pay(0, 2, 50);
        x.again(0);
        for (int i = 0; i < 8; i++) {
            CHECK.due("33 TRACE " + i, x.trace(0, i), i % 4);
        }
        CHECK.due("33 no ninth", x.trace(0, 8), -9);
        CHECK.due("14 an eighth BARGAIN", x.pay(3, 0, 50), 1);
        CHECK.due("22 no ninth", x.trace(0, 8), -9);
        CHECK.due("22 the eighth", x.trace(0, 7), 3);
    }

    /** "(.. what their WEAR should be)" */
    private static void keptWithWhatWearShouldBe() {
        TeethForCoins x = Check.market("L01T5R90T5R91");
        x.should(0, 0);
        x.should(1, 99);
        x.keep(0);
        x.should(0, 99);
        x.should(1, 8);
        x.keep(1);
        CHECK.due("30 as it is", x.stolen(), 2);
        x.again(0);
        CHECK.due("33 STOLEN", x.stolen(), 1);
        CHECK.due("33 BY MOST", x.thief(), 0);
        CHECK.due("33 should be", x.should(0, 50), 0);
        CHECK.due("33 should be", x.should(1, 50), 99);
        x.again(1);
        CHECK.due("33 STOLEN", x.stolen(), 2);
        CHECK.due("33 should be", x.should(0, 50), 99);
        CHECK.due("33 should be", x.should(1, 50), 8);
        x.again(0);
        CHECK.due("33 as kept, not as since", x.should(0, 1), 0);
    }

    /** "RATES of MONIES" */
    private static void keptWithRates() {
        TeethForCoins x = new TeethForCoins();
        x.keep(1);
        for (int money = 0; money < 4; money++) {
            for (int other = 0; other < 4; other++) {
                x.rate(money, other, 99 - money, 1 + other);
            }
        }
        x.keep(0);
        x.again(1);
        CHECK.due("33 1 for 1", x.ring(true), 1);
        CHECK.due("33 1 for 1", x.ringAt(2), -9);
        for (int slot = 1; slot >= 0; slot--) {
            x.again(slot);
            for (int money = 0; money < 4; money++) {
                for (int other = 0; other < 4; other++) {
                    int due = slot == 1 ? 101 : 100 * (99 - money) + 1 + other;
                    CHECK.due("33 RATE", x.rate(money, other, 7, 8), money == other ? -2 : due);
                }
            }
        }
        x.again(1);
        CHECK.due("33 as kept, not as since", x.rate(3, 2, 1, 1), 101);
    }

    /** "(LOSS, RATE, GOODS are as they are.)" */
    private static void lawAndGoodsAreAsTheyAre() {
        TeethForCoins x = Check.market("L12T5L20G105G206");
        x.keep(0);
        x.wipe();
        Check.tell(x, "L93G991G011G021X");
        CHECK.due("5 LATE", x.market(), -3);
        CHECK.due("33 RATE of before", x.again(0), 1);
        CHECK.due("33 WORTH of before", x.tooth(0, 4), 96);
        x.wipe();
        Check.tell(x, "L93G991G011G021");
        x.market();
        CHECK.due("33 one", x.again(0), 1);
        CHECK.due("33 LOSS", x.about(2), 9);
        CHECK.due("33 RATE", x.about(3), 3);
        CHECK.due("33 WORTH", x.tooth(0, 4), 96);
        CHECK.due("33 WORTH", x.handle(0), 69);
        CHECK.due("33 GOODS", x.about(1), 3);
        CHECK.due("33 a GOOD", x.good(0, 0), 99);
        CHECK.due("33 THE TEXT", x.about(5), 15);
        CHECK.due("18 for what it is worth", x.spent(0, true), 6);
    }

    private static void keptOverWhatWasKept() {
        TeethForCoins x = Check.market("L01T5R00T6R01");
        x.pay(0, 1, 50);
        x.pay(1, 0, 110);
        CHECK.due("32 two", x.keep(0), 2);
        x.wipe();
        Check.tell(x, "L01T7R02");
        x.market();
        x.rate(0, 1, 5, 4);
        CHECK.due("32 one, over it", x.keep(0), 1);
        x.market();
        x.rate(0, 1, 1, 1);
        CHECK.due("33 one", x.again(0), 1);
        CHECK.due("33 the later one", x.tooth(0, 0), 7);
        CHECK.due("33 no second", x.tooth(1, 0), -1);
        CHECK.due("33 no BARGAIN", x.undo(), -3);
        CHECK.due("33 the later RATE", x.rate(0, 1, 1, 1), 504);
        CHECK.due("22 no TRACE of the other one", x.trace(0, 1), -9);
    }

    private static void slotsApart() {
        TeethForCoins x = Check.market("L01T5R00");
        x.keep(0);
        x.pay(0, 1, 50);
        x.keep(1);
        x.pay(1, 2, 50);
        for (int i = 0; i < 3; i++) {
            CHECK.due("33 one", x.again(i % 2), 1);
            CHECK.due("33 BARGAINS", x.about(4), i % 2);
            CHECK.due("33 OWNER", x.tooth(0, 3), i % 2);
            CHECK.due("33 WEAR", x.tooth(0, 2), i % 2);
        }
        x.again(1);
        x.undo();
        x.keep(0);
        CHECK.due("33 of SLOT 1 none is undone", x.again(1), 1);
        CHECK.due("33 of SLOT 1 none is undone", x.about(4), 1);
        CHECK.due("33 of SLOT 0", x.again(0), 1);
        CHECK.due("33 of SLOT 0", x.about(4), 0);
    }

    /** "An object is used for at most 512 calls": the last one answers as the first one. */
    private static void runOf512() {
        TeethForCoins x = Check.market("L01T5R00T2R01");
        int calls = 3;
        for (; calls + 4 < 512; calls += 4) {
            CHECK.due("14 call " + calls, x.pay(0, 1, 30), 2);
            CHECK.due("15 call " + calls, x.undo(), 0);
            CHECK.due("32 call " + calls, x.keep(calls & 1), 2);
            CHECK.due("33 call " + calls, x.again(calls & 1), 2);
        }
        for (; calls < 512; calls++) {
            CHECK.due("9 call " + calls, x.purse(0), 50);
        }
    }
}
