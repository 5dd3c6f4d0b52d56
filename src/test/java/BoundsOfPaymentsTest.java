/**
 * Promises 12 to 18 sentence by sentence: of each one that names a bound, just inside it and just outside it. That what
 * is refused changes nothing is held by RefusalTest.
 */
public final class BoundsOfPaymentsTest {
    private static final Check CHECK = new Check("BoundsOfPaymentsTest");

    public static void main(String[] args) {
        peopleAreTwo();
        askedAlone();
        priceZero();
        priceOne();
        price999();
        tenTeeth();
        changeAlone();
        fewestFirst();
        paidBeforeChange();
        worthlessTeeth();
        handledAndOwned();
        handledAt99();
        eightBargains();
        undoOneAndAll();
        undoOfWhatCameSince();
        undoOfTraces();
        tooMuchIsPriceOrMore();
        tooMuchOfLikeOnes();
        sumsFromOneToN();
        sumsOfBothWays();
        spentNoMoreThanWorth();
        spentOfLikeOnes();
        CHECK.end();
    }

    private static void payment(String what, TeethForCoins x, int price, int teeth, int paid, int change) {
        CHECK.due("12 " + what, x.fewest(0, 1, price), teeth);
        CHECK.due("13 " + what + ": paid", x.paid(0, 1, price, false), paid);
        CHECK.due("13 " + what + ": change", x.paid(0, 1, price, true), change);
    }

    /** "PEOPLE are 0 .. 3"; "UNKNOWN: people; BAD: both are one" */
    private static void peopleAreTwo() {
        TeethForCoins x = Check.market("L11T1R00T2R01T3R02T4R03");
        for (int person = -1; person <= 4; person++) {
            for (int other = -1; other <= 4; other++) {
                boolean no = person < 0 || person > 3 || other < 0 || other > 3;
                int refusal = no ? -1 : person == other ? -2 : 0;
                int worth = 10 * (person + 1);
                String what = " of " + person + " and " + other;
                CHECK.due("12" + what, x.fewest(person, other, worth), refusal < 0 ? refusal : 1);
                CHECK.due("13" + what, x.paid(person, other, worth, false), refusal < 0 ? refusal : 1 << person);
                CHECK.due("13" + what, x.paid(person, other, worth, true), refusal);
                CHECK.due("17" + what, x.sums(person, other, 999), refusal < 0 ? refusal : person > other ? 2 : 1);
                CHECK.due("14" + what, x.pay(person, other, worth), refusal < 0 ? refusal : 1);
                if (refusal == 0) {
                    x.undo();
                }
            }
            int refusal = person < 0 || person > 3 ? -1 : 0;
            CHECK.due("16 of " + person, x.tooMuch(person, 0, false), refusal);
            CHECK.due("16 of " + person, x.tooMuch(person, 1, true), refusal < 0 ? refusal : 1 << person);
            CHECK.due("18 of " + person, x.spent(person, false), refusal);
            CHECK.due("18 of " + person, x.spent(person, true), refusal);
        }
    }

    /** Each call tells of what it is asked, whatever was asked ahead of it. */
    private static void askedAlone() {
        String market = "L01T5R00T3R01T2R12G309G107";
        CHECK.due("12 alone", Check.market(market).fewest(0, 1, 20), 2);
        CHECK.due("13 alone", Check.market(market).paid(0, 1, 20, false), 1);
        CHECK.due("13 alone", Check.market(market).paid(0, 1, 20, true), 2);
        CHECK.due("14 alone", Check.market(market).pay(0, 1, 20), 2);
        CHECK.due("16 alone", Check.market(market).tooMuch(0, 20, true), 1);
        CHECK.due("18 alone", Check.market(market).spent(0, true), 3);
        TeethForCoins x = Check.market(market);
        int[] spent = {16, 9, 7, 0};
        for (int i = 0; i < 8; i++) {
            for (int person = 0; person < 4; person++) {
                CHECK.due("18 one behind the other", x.spent(person, false), spent[person]);
            }
            CHECK.due("12 there is none", x.fewest(3, 0, 20), -9);
            CHECK.due("13 there is one", x.paid(0, 1, 20, true), 2);
            CHECK.due("13 there is none", x.paid(0, 1, 10, false), -9);
            CHECK.due("16 there is one", x.tooMuch(2, 20, false), 20);
            CHECK.due("16 there is none", x.tooMuch(3, 1, false), -9);
            CHECK.due("17 20 and 50", x.sums(0, 1, 999), 2);
        }
    }

    /** "a price (0 .. 999)": for 0 no TEETH go over, but it is a BARGAIN. */
    private static void priceZero() {
        TeethForCoins x = Check.market("L01T5R00T5R01");
        payment("price 0", x, 0, 0, 0, 0);
        payment("price -1", x, -1, -2, -2, -2);
        CHECK.due("14 price -1", x.pay(0, 1, -1), -2);
        CHECK.due("14 no BARGAIN", x.about(4), 0);
        CHECK.due("14 price 0", x.pay(0, 1, 0), 0);
        CHECK.due("14 a BARGAIN", x.about(4), 1);
        CHECK.due("14 no OWNER", x.trace(0, 1), -9);
        CHECK.due("14 no WEAR", x.tooth(0, 2), 0);
        TeethForCoins none = new TeethForCoins();
        payment("price 0 without TEETH", none, 0, 0, 0, 0);
        payment("price 1 without TEETH", none, 1, -9, -9, -9);
        CHECK.due("14 price 0 without TEETH", none.pay(3, 2, 0), 0);
        CHECK.due("14 price 1 without TEETH", none.pay(3, 2, 1), -3);
        CHECK.due("14 one BARGAIN", none.about(4), 1);
    }

    private static void priceOne() {
        TeethForCoins x = Check.market("L11T1R90T2R01T3R90");
        payment("price 1", x, 1, 1, 1, 0);
        payment("price 2, by change", x, 2, 3, 5, 2);
        payment("price 3", x, 3, -9, -9, -9);
        CHECK.due("14 price 1", x.pay(0, 1, 1), 1);
        CHECK.due("14 price 1 once more", x.pay(0, 1, 1), 2);
    }

    /** 810 and 189 are 999. */
    private static void price999() {
        TeethForCoins x = Check.market("L19T9L00T3L90T1R00");
        payment("price 999", x, 999, 2, 3, 0);
        payment("price 998", x, 998, -9, -9, -9);
        payment("price 1000", x, 1000, -2, -2, -2);
        payment("price 1009", x, 1009, -2, -2, -2);
        CHECK.due("14 price 1009", x.pay(0, 1, 1009), -2);
        CHECK.due("14 price 999", x.pay(0, 1, 999), 2);
        // 1620 is paid, 630 is the change.
        TeethForCoins y = Check.market("L09T9L00T7L01T9L00");
        payment("more than 999 is paid", y, 990, 3, 5, 2);
        CHECK.due("14 more than 999 is paid", y.pay(0, 1, 990), 3);
    }

    /** Sets are told as bits, up to the tenth TOOTH. */
    private static void tenTeeth() {
        TeethForCoins x = Check.market("L01" + "T1R00".repeat(9) + "T9R00");
        payment("the tenth", x, 90, 1, 512, 0);
        payment("the tenth and the first", x, 100, 2, 513, 0);
        payment("all ten", x, 180, 10, 1023, 0);
        payment("more than all", x, 181, -9, -9, -9);
        TeethForCoins y = Check.market("L01T9R00" + "T1R01".repeat(9));
        payment("nine are the change", y, 0, 0, 0, 0);
        payment("eight are the change", y, 10, 9, 1, 510);
        payment("one is the change", y, 80, 2, 1, 2);
        CHECK.due("14 eight are the change", y.pay(0, 1, 10), 9);
        CHECK.due("9 one and eight", y.purse(0), 80);
        CHECK.due("9 one and eight", y.purse(1), 100);
        TeethForCoins z = Check.market("L01T9R00" + "T1R01".repeat(8) + "T8R01");
        payment("the tenth is the change", z, 10, 2, 1, 512);
        CHECK.due("14 the tenth is the change", z.pay(0, 1, 10), 2);
        CHECK.due("14 the tenth", z.tooth(9, 3), 0);
        CHECK.due("14 the tenth", z.trace(9, 1), 0);
    }

    /** "the WORTH of the first, less that of the CHANGE, is the price": CHANGE alone pays nothing above 0. */
    private static void changeAlone() {
        TeethForCoins x = Check.market("L01T5R01T5R02");
        payment("none of one's own", x, 50, -9, -9, -9);
        payment("none of one's own", x, 0, 0, 0, 0);
        CHECK.due("12 a third one's are not paid", x.fewest(3, 0, 50), -9);
        CHECK.due("12 one's own", x.fewest(1, 0, 50), 1);
        TeethForCoins y = Check.market("L01T5R00T2R02T2R01");
        payment("a third one's are no change", y, 30, 2, 1, 4);
    }

    /** "with fewest TEETH (paid and CHANGE together)" */
    private static void fewestFirst() {
        // 20, 30 paid are two; 60 paid and 10 back are two too; the set 3 is less than 8.
        payment("of like ones", Check.market("L01T2R00T3R00T1R01T6R00"), 50, 2, 3, 0);
        // Three paid against one paid and one back.
        payment("one and one", Check.market("L01T1R00T2R00T2R00T1R01T6R00"), 50, 2, 16, 8);
        // One paid and two back against two paid.
        payment("two and none", Check.market("L01T9R00T2R01T2R01T3R00T2R00"), 50, 2, 24, 0);
        // One is fewer than two.
        payment("one and none", Check.market("L01T2R00T3R00T5R00"), 50, 1, 4, 0);
    }

    /** "of like ones the least set that is paid, then the least CHANGE" */
    private static void paidBeforeChange() {
        // 30 - 10 is 1 and 8; 40 - 20 is 2 and 4.
        payment("the least paid, though more change", Check.market("L01T3R00T4R00T2R01T1R01"), 20, 2, 1, 8);
        // 30 - 10 is 1 and 4; 40 - 20 is 8 and 2.
        payment("the least paid, though less change", Check.market("L01T3R00T2R01T1R01T4R00"), 20, 2, 1, 4);
        // 40 - 20 with either of two 20.
        payment("the least change", Check.market("L01T4R00T9R01T2R01T2R01"), 20, 2, 1, 4);
        // Either of two 40, either of two 20, told late and early.
        payment("both least", Check.market("L01T2R01T2R01T4R00T4R00"), 20, 2, 4, 1);
        // A set is as great as its greatest TOOTH: 1 and 2 are less than 3 alone, were they as few.
        payment("of two the set 6 before 9", Check.market("L01T1R00T2R00T3R00T4R00"), 50, 2, 6, 0);
    }

    private static void worthlessTeeth() {
        TeethForCoins x = Check.market("L91T1R90T5R00T1R91T1L90");
        payment("what is worth nothing is not paid", x, 50, 1, 2, 0);
        payment("nor for nothing", x, 0, 0, 0, 0);
        CHECK.due("16 nor too much", x.tooMuch(0, 1, true), 2);
        CHECK.due("16 nor for nothing", x.tooMuch(0, 0, true), 0);
        CHECK.due("17 nor a sum", x.sums(0, 1, 999), 1);
    }

    /** "all those are HANDLED, and have the other OWNER" */
    private static void handledAndOwned() {
        TeethForCoins x = Check.market("L11T5R00T2L01B1R02T6R13");
        CHECK.due("14 two go over", x.pay(0, 1, 30), 2);
        int[][] ownerWear = {{1, 1}, {0, 1}, {2, 0}, {3, 1}};
        for (int tooth = 0; tooth < 4; tooth++) {
            CHECK.due("14 OWNER of " + tooth, x.tooth(tooth, 3), ownerWear[tooth][0]);
            CHECK.due("14 WEAR of " + tooth, x.tooth(tooth, 2), ownerWear[tooth][1]);
            CHECK.due("14 what it should be stays " + tooth, x.should(tooth, 0), tooth == 3 ? 1 : 0);
        }
        CHECK.due("14 a BARGAIN", x.about(4), 1);
        CHECK.due("14 a FAKE", x.pay(2, 3, 10), 1);
        CHECK.due("14 a FAKE", x.tooth(2, 5), 1);
    }

    private static void handledAt99() {
        TeethForCoins x = Check.market("L01T5R00T2R01");
        for (int i = 0; i < 98; i++) {
            x.handle(0);
            x.handle(1);
        }
        x.handle(1);
        CHECK.due("14 at 98 and 99", x.pay(0, 1, 30), 2);
        CHECK.due("14 one more WEAR", x.tooth(0, 2), 99);
        CHECK.due("14 no more WEAR", x.tooth(1, 2), 99);
        CHECK.due("14 at 99", x.pay(1, 0, 30), 2);
        CHECK.due("14 no more WEAR", x.tooth(0, 2), 99);
        x.undo();
        x.undo();
        CHECK.due("15 as it was", x.tooth(0, 2), 98);
        CHECK.due("15 as it was", x.tooth(1, 2), 99);
    }

    /** "BARGAINS that were made are a row (8 at most)"; "LATE: it can not be paid; FULL: 8 BARGAINS" */
    private static void eightBargains() {
        TeethForCoins x = Check.market("L01T5R00T2R01");
        for (int made = 1; made <= 8; made++) {
            CHECK.due("14 the BARGAIN " + made, x.pay((made + 1) % 2, made % 2, 50), 1);
            CHECK.due("6 BARGAINS", x.about(4), made);
        }
        CHECK.due("14 a ninth", x.pay(0, 1, 50), -4);
        CHECK.due("14 a ninth for nothing", x.pay(0, 1, 0), -4);
        CHECK.due("14 LATE ahead of FULL", x.pay(0, 1, 10), -3);
        CHECK.due("14 BAD ahead of FULL", x.pay(0, 1, 1000), -2);
        CHECK.due("14 UNKNOWN ahead of FULL", x.pay(0, 4, 50), -1);
        CHECK.due("12 it can be asked still", x.fewest(0, 1, 50), 1);
        CHECK.due("13 it can be asked still", x.paid(0, 1, 50, false), 1);
        CHECK.due("6 eight", x.about(4), 8);
        CHECK.due("10 eight times", x.tooth(0, 2), 8);
        CHECK.due("15 one less", x.undo(), 7);
        CHECK.due("14 one more", x.pay(1, 2, 50), 1);
        CHECK.due("14 a ninth", x.pay(2, 0, 50), -4);
        CHECK.due("14 it went", x.tooth(0, 3), 2);
    }

    /** "the last one can be undone (who owns what, sizes, WEAR and TRACES are as they were ahead of it" */
    private static void undoOneAndAll() {
        TeethForCoins x = Check.market("L01T5R00T2R31");
        CHECK.due("15 none", x.undo(), -3);
        for (int made = 0; made < 8; made++) {
            CHECK.due("14 made", x.pay(made % 2, 1 - made % 2, 30), 2);
        }
        for (int left = 7; left >= 0; left--) {
            x.handle(1);
            CHECK.due("15 left", x.undo(), left);
            CHECK.due("6 left", x.about(4), left);
            CHECK.due("15 OWNER", x.tooth(0, 3), left % 2);
            CHECK.due("15 OWNER", x.tooth(1, 3), 1 - left % 2);
            CHECK.due("15 WEAR", x.tooth(0, 2), left);
            CHECK.due("15 WEAR", x.tooth(1, 2), 3 + left);
            CHECK.due("15 TRACE", x.trace(0, left + 1), -9);
            CHECK.due("15 TRACE", x.trace(1, left), 1 - left % 2);
        }
        CHECK.due("15 none is left", x.undo(), -3);
        CHECK.due("15 it stays", x.tooth(0, 3), 0);
        // One that was undone is no more in the row.
        x.pay(0, 1, 50);
        x.undo();
        x.pay(0, 1, 0);
        x.handle(0);
        CHECK.due("15 the later one", x.undo(), 0);
        CHECK.due("15 the later one", x.tooth(0, 2), 0);
        CHECK.due("15 none is left", x.undo(), -3);
        bitten();
    }

    private static void bitten() {
        TeethForCoins x = Check.market("L01T5R40T7L31");
        x.pay(0, 1, 0);
        x.bite(0);
        x.bite(1);
        x.bite(1);
        x.should(0, 77);
        CHECK.due("15 undone", x.undo(), 0);
        CHECK.due("15 size", x.tooth(0, 0), 5);
        CHECK.due("15 WEAR", x.tooth(0, 2), 4);
        CHECK.due("15 size", x.tooth(1, 0), 7);
        CHECK.due("15 WEAR", x.tooth(1, 2), 3);
        CHECK.due("15 what it should be is none of these", x.should(0, 0), 77);
    }

    /** "TEETH that came since are as they are" */
    private static void undoOfWhatCameSince() {
        TeethForCoins x = Check.market("L01" + "T5R00".repeat(8));
        x.pay(0, 1, 50);
        x.caught(3, 9L);
        x.handle(8);
        x.pay(0, 2, 100);
        x.caught(2, 10L);
        x.handle(9);
        x.handle(8);
        int worth = x.tooth(9, 4);
        CHECK.due("14 the tenth goes over", x.pay(2, 0, worth), 1);
        CHECK.due("15 the third", x.undo(), 2);
        CHECK.due("15 the tenth is back", x.tooth(9, 3), 2);
        CHECK.due("15 the tenth is back", x.tooth(9, 2), 1);
        CHECK.due("15 the tenth is back", x.trace(9, 1), -9);
        x.handle(9);
        CHECK.due("15 the second", x.undo(), 1);
        CHECK.due("15 the tenth came since", x.tooth(9, 2), 2);
        CHECK.due("15 the ninth was there", x.tooth(8, 2), 1);
        x.handle(8);
        CHECK.due("15 the first", x.undo(), 0);
        CHECK.due("15 the ninth came since", x.tooth(8, 2), 2);
        CHECK.due("15 the ninth came since", x.tooth(8, 3), 3);
        CHECK.due("15 ten stay", x.about(0), 10);
        CHECK.due("15 the first is back", x.purse(0), 400);
        // Of an object without TEETH all came since.
        TeethForCoins none = new TeethForCoins();
        none.pay(0, 1, 0);
        none.washed(10, 3L);
        none.handle(0);
        CHECK.due("15 all came since", none.undo(), 0);
        CHECK.due("15 all came since", none.about(0), 10);
        CHECK.due("15 all came since", none.tooth(0, 2), 1);
    }

    /** TRACES that are beyond the eighth come back, too. */
    private static void undoOfTraces() {
        TeethForCoins x = Check.market("L01T5R00");
        for (int i = 0; i < 7; i++) {
            x.pay(i % 4, (i + 1) % 4, 50);
        }
        CHECK.due("22 the eighth", x.trace(0, 7), 3);
        x.pay(3, 0, 50);
        CHECK.due("22 a ninth", x.trace(0, 8), -9);
        x.undo();
        CHECK.due("22 the eighth stays", x.trace(0, 7), 3);
        x.undo();
        CHECK.due("22 the eighth is gone", x.trace(0, 7), -9);
        CHECK.due("22 the seventh", x.trace(0, 6), 2);
        x.pay(2, 1, 50);
        CHECK.due("22 another eighth", x.trace(0, 7), 1);
    }

    private static void tooMuch(String what, TeethForCoins x, int price, int worth, int set) {
        CHECK.due("16 " + what + ": WORTH", x.tooMuch(0, price, false), worth);
        CHECK.due("16 " + what + ": set", x.tooMuch(0, price, true), set);
    }

    /** "the least WORTH of a set of one's TEETH that is the price or more"; "NONE: one has not so much" */
    private static void tooMuchIsPriceOrMore() {
        TeethForCoins x = Check.market("L01T5R00T2R00T4R01");
        tooMuch("price -1", x, -1, -2, -2);
        tooMuch("price 0", x, 0, 0, 0);
        tooMuch("price 1", x, 1, 20, 2);
        tooMuch("one less", x, 19, 20, 2);
        tooMuch("the same", x, 20, 20, 2);
        tooMuch("one more", x, 21, 50, 1);
        tooMuch("all, one less", x, 69, 70, 3);
        tooMuch("all", x, 70, 70, 3);
        tooMuch("more than all", x, 71, -9, -9);
        tooMuch("price 999", x, 999, -9, -9);
        tooMuch("price 1000", x, 1000, -2, -2);
        TeethForCoins much = Check.market("L19T9L00T3L90T1R00");
        tooMuch("price 999 is there", much, 999, 999, 3);
        tooMuch("price 998", much, 998, 999, 3);
        tooMuch("1000 is no price", much, 1000, -2, -2);
        TeethForCoins more = Check.market("L19T9L00T9L00");
        tooMuch("1620 for 999", more, 999, 1620, 3);
        tooMuch("810 for 810", more, 810, 810, 1);
        tooMuch("1620 for 811", more, 811, 1620, 3);
        tooMuch("no TEETH", new TeethForCoins(), 0, 0, 0);
        tooMuch("no TEETH", new TeethForCoins(), 1, -9, -9);
        tooMuch("the tenth", Check.market("L01" + "T1R01".repeat(9) + "T9R00"), 90, 90, 512);
        tooMuch("all ten", Check.market("L01" + "T9L00".repeat(10)), 900, 900, 1023);
    }

    /** "the set (of like ones with fewest TEETH, then the least)" */
    private static void tooMuchOfLikeOnes() {
        tooMuch("fewest", Check.market("L01T2R00T3R00T5R00"), 45, 50, 4);
        tooMuch("the least", Check.market("L01T1R01T5R00T5R00"), 45, 50, 2);
        tooMuch("the least of two", Check.market("L01T1R00T2R00T3R00T4R00"), 50, 50, 6);
        tooMuch("least WORTH goes ahead of fewest", Check.market("L01T6R00T2R00T3R00"), 45, 50, 6);
    }

    /** "how many prices, 1 .. n (1 .. 999)" */
    private static void sumsFromOneToN() {
        // 0 can pay 1, 2 (21 - 19), 21, 22 and, for nothing, 0.
        TeethForCoins x = Check.market("L11T1R90T2R01T3R90T2R11");
        CHECK.due("17 n is 0", x.sums(0, 1, 0), -2);
        CHECK.due("17 n is -1", x.sums(0, 1, -1), -2);
        CHECK.due("17 n is 1", x.sums(0, 1, 1), 1);
        CHECK.due("17 n is 2", x.sums(0, 1, 2), 2);
        CHECK.due("17 n is 3", x.sums(0, 1, 3), 3);
        CHECK.due("17 n is 20", x.sums(0, 1, 20), 3);
        CHECK.due("17 n is 21", x.sums(0, 1, 21), 4);
        CHECK.due("17 n is 22", x.sums(0, 1, 22), 5);
        CHECK.due("17 n is 999", x.sums(0, 1, 999), 5);
        CHECK.due("17 n is 1000", x.sums(0, 1, 1000), -2);
        TeethForCoins much = Check.market("L19T9L00T3L90T1R00");
        CHECK.due("17 810, 189, 10, and two of 199, 820, 999", much.sums(0, 1, 999), 6);
        CHECK.due("17 999 is beyond", much.sums(0, 1, 998), 5);
        CHECK.due("17 no TEETH", new TeethForCoins().sums(0, 1, 999), 0);
        CHECK.due("17 no TEETH", new TeethForCoins().sums(0, 1, 1000), -2);
        CHECK.due("17 10, 20, .. 150", Check.market("L01T1R00T2R00T4R00T8R00").sums(0, 1, 999), 15);
    }

    private static void sumsOfBothWays() {
        TeethForCoins x = Check.market("L01T5R00T3R01T9R02");
        CHECK.due("17 50 and 20", x.sums(0, 1, 999), 2);
        CHECK.due("17 30", x.sums(1, 0, 999), 1);
        CHECK.due("17 50", x.sums(0, 3, 999), 1);
        CHECK.due("17 none", x.sums(3, 0, 999), 0);
        CHECK.due("17 like TEETH count once", Check.market("L01" + "T1R00".repeat(10)).sums(0, 1, 999), 10);
        String five = "L01" + "T1R00".repeat(5) + "T1R01".repeat(5);
        CHECK.due("17 like TEETH count once", Check.market(five).sums(0, 1, 999), 5);
    }

    private static void spent(String what, TeethForCoins x, int use, int set) {
        CHECK.due("18 " + what + ": use", x.spent(0, false), use);
        CHECK.due("18 " + what + ": GOODS", x.spent(0, true), set);
    }

    /** "whose prices together are no more than all that one's TEETH are worth"; "each once at most" */
    private static void spentNoMoreThanWorth() {
        spent("the same", Check.market("L11T5R00G505"), 5, 1);
        spent("one less", Check.market("L11T5R00G495"), 5, 1);
        spent("one more", Check.market("L11T5R00G515"), 0, 0);
        spent("two, the same", Check.market("L11T5R00G305G204"), 9, 3);
        spent("two, one more", Check.market("L11T5R00G305G214"), 5, 1);
        spent("each once at most", Check.market("L11T5R00G101"), 1, 1);
        spent("all four", Check.market("L11T5R00G201G151G101G051"), 4, 15);
        spent("one more than all four", Check.market("L11T5R00G201G151G101G061"), 3, 14);
        spent("the fourth", Check.market("L11T5R00G991G991G991G509"), 9, 8);
        spent("no GOODS", Check.market("L11T5R00"), 0, 0);
        spent("no TEETH", Check.market("L11G019"), 0, 0);
        spent("another one's TEETH", Check.market("L11T5R01G019"), 0, 0);
        spent("one worth 5, one worth nothing", Check.market("L51T4R70T1R90G059"), 9, 1);
        spent("one worth 5, one worth nothing", Check.market("L51T4R70T1R90G069"), 0, 0);
        spent("worth nothing at all", Check.market("L51T4R80T1R91G019"), 0, 0);
        spent("the most", Check.market("L11" + "T9L00".repeat(5) + "G999".repeat(4)), 36, 15);
        spent("one less than the most", Check.market("L11T9R00T9R00T9R00T9R00T4R50G999G999G999G999"), 27, 7);
        spent("396 for 396", Check.market("L11T9R00T9R00T9R00T9R00T4R40G999G999G999G999"), 36, 15);
    }

    /** "of like ones those with the least prices together, then the least set" */
    private static void spentOfLikeOnes() {
        spent("least prices", Check.market("L11T5R00G503G493"), 3, 2);
        spent("least prices of two", Check.market("L11T5R00G409G305G204"), 9, 1);
        spent("the least set", Check.market("L11T5R00G303G303"), 3, 1);
        spent("the least set of two", Check.market("L11T5R00G502G301G201"), 2, 1);
        spent("3 before 4", Check.market("L11T5R00G301G201G502"), 2, 3);
        spent("of no use", Check.market("L11T5R00G010G010"), 0, 0);
        spent("of no use beside another", Check.market("L11T5R00G010G501"), 1, 2);
    }
}
