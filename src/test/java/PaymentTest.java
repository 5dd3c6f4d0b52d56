/** Promises 12 to 18: THE FEWEST, what is paid, BARGAINS made and undone, TOO MUCH, SUMS, SPENT. */
public final class PaymentTest {
    private static final Check CHECK = new Check("PaymentTest");
    private static final int[] NO_PEOPLE = {4, -1, Integer.MIN_VALUE, Integer.MAX_VALUE};
    private static final int[] NO_PRICES = {1000, -1, Integer.MIN_VALUE, Integer.MAX_VALUE};

    public static void main(String[] args) {
        fewest();
        refusalsOfPayments();
        leastOfLikeOnes();
        paid();
        pay();
        payIsLate();
        payIsFull();
        undo();
        undoLeavesWhatCameSince();
        undoTakesBackWhatWasDone();
        tooMuch();
        sums();
        spent();
        CHECK.end();
    }

    private static void payment(TeethForCoins x, int price, int teeth, int paid, int change) {
        CHECK.due("12 fewest for " + price, x.fewest(0, 1, price), teeth);
        CHECK.due("13 paid for " + price, x.paid(0, 1, price, false), paid);
        CHECK.due("13 change for " + price, x.paid(0, 1, price, true), change);
    }

    private static void fewest() {
        // 0 has 50, 20, 20; 1 has 30, 10; 2 has 70.
        TeethForCoins x = Check.market("L01T5R00T2R00T2R00T3R01T1R01T7R02");
        payment(x, 0, 0, 0, 0);
        payment(x, 50, 1, 1, 0);
        payment(x, 40, 2, 1, 16);
        payment(x, 20, 1, 2, 0);
        payment(x, 10, 2, 2, 16);
        payment(x, 60, 3, 3, 16);
        payment(x, 70, 2, 3, 0);
        payment(x, 90, 3, 7, 0);
        payment(x, 80, 4, 7, 16);
        payment(x, 30, 3, 6, 16);
        payment(x, 100, -9, -9, -9);
        payment(x, 999, -9, -9, -9);
        payment(x, 5, -9, -9, -9);
        CHECK.due("12 the other way", x.fewest(1, 0, 10), 1);
        CHECK.due("12 a third one's are not his", x.fewest(2, 0, 20), 2);
        CHECK.due("12 none of his own", x.fewest(3, 0, 20), -9);
        CHECK.due("12 asks, does not pay", x.about(4), 0);
        CHECK.due("12 asks, does not handle", x.tooth(0, 2), 0);
        CHECK.due("12 much", Check.market("L09" + "T9L00".repeat(2)).fewest(0, 1, 810), 1);
        // The thing paid may be a FAKE.
        CHECK.due("12 a fake", Check.market("L01B5R00").fewest(0, 1, 50), 1);
    }

    private static void refusalsOfPayments() {
        TeethForCoins x = Check.market("L01T5R00");
        for (int no : NO_PEOPLE) {
            for (int i = 0; i < 2; i++) {
                int one = i == 0 ? no : 0;
                int other = i == 0 ? 0 : no;
                CHECK.due("12 UNKNOWN", x.fewest(one, other, 50), -1);
                CHECK.due("12 UNKNOWN ahead of BAD", x.fewest(one, other, -1), -1);
                CHECK.due("13 UNKNOWN", x.paid(one, other, 50, true), -1);
                CHECK.due("13 UNKNOWN ahead of BAD", x.paid(one, other, 1000, false), -1);
                CHECK.due("14 UNKNOWN", x.pay(one, other, 50), -1);
                CHECK.due("14 UNKNOWN ahead of BAD", x.pay(one, other, 1000), -1);
            }
            CHECK.due("12 UNKNOWN ahead of BAD", x.fewest(no, no, 50), -1);
            CHECK.due("14 UNKNOWN ahead of BAD", x.pay(no, no, 50), -1);
        }
        for (int no : NO_PRICES) {
            CHECK.due("12 BAD", x.fewest(0, 1, no), -2);
            CHECK.due("13 BAD", x.paid(0, 1, no, false), -2);
            CHECK.due("14 BAD", x.pay(0, 1, no), -2);
        }
        CHECK.due("12 BAD: both are one", x.fewest(0, 0, 50), -2);
        CHECK.due("13 BAD: both are one", x.paid(0, 0, 50, true), -2);
        CHECK.due("14 BAD: both are one", x.pay(0, 0, 50), -2);
        CHECK.due("14 what is refused changes nothing", x.about(4), 0);
        CHECK.due("14 what is refused changes nothing", x.tooth(0, 2), 0);
    }

    private static void leastOfLikeOnes() {
        // 30 - 10 pays 2 with change 16; 40 - 20 pays 4 with change 8 or 32.
        TeethForCoins x = Check.market("L01T9R03T3R00T4R00T2R01T1R01T2R01");
        payment(x, 20, 2, 2, 16);
        // 40 - 20 pays 2 with change 8 or 16; 30 - 10 pays 4 with change 1, but what is paid goes first.
        x = Check.market("L01T1R01T4R00T3R00T2R01T2R01");
        payment(x, 20, 2, 2, 8);
        // 40 - 20 pays 4 with change 2; 30 - 10 pays 8 with change 1.
        x = Check.market("L01T1R01T2R01T4R00T3R00");
        payment(x, 20, 2, 4, 2);
        // 50 - 20, each to be had twice.
        x = Check.market("L01T2R01T2R01T5R00T5R00");
        payment(x, 30, 2, 4, 1);
        // A TOOTH worth nothing is no use.
        x = Check.market("L91T1R90T5R00T1R91T5R00");
        payment(x, 0, 0, 0, 0);
        payment(x, 100, 2, 10, 0);
        // Three of 0's that are told early against two told late: fewest goes ahead of least.
        x = Check.market("L01T1R00T2R00T3R00T3R00T3R00");
        payment(x, 60, 2, 12, 0);
        payment(x, 30, 1, 4, 0);
    }

    private static void paid() {
        TeethForCoins x = Check.market("L11T5L00T5L01");
        CHECK.due("13 all for nothing", x.paid(0, 1, 0, false), 0);
        CHECK.due("13 change for nothing", x.paid(0, 1, 0, true), 0);
        CHECK.due("13 one", x.paid(1, 0, 50, false), 2);
        CHECK.due("13 NONE", x.paid(1, 2, 51, false), -9);
        CHECK.due("13 NONE", x.paid(1, 2, 51, true), -9);
        CHECK.due("13 asks, does not pay", x.about(4), 0);
    }

    private static void pay() {
        TeethForCoins x = Check.market("L13T5R00T2L01B9R92T2R10");
        CHECK.due("14 one over, one back is not to be had", x.pay(0, 1, 10), -3);
        // 50 + 19 - 60 = 9.
        CHECK.due("14 how many", x.pay(0, 1, 9), 3);
        int[][] due = {{5, 1, 49}, {2, 0, 57}, {9, 2, 81}, {2, 1, 18}};
        for (int tooth = 0; tooth < 4; tooth++) {
            CHECK.due("14 size", x.tooth(tooth, 0), due[tooth][0]);
            CHECK.due("14 owner", x.tooth(tooth, 3), due[tooth][1]);
            CHECK.due("14 worth", x.tooth(tooth, 4), due[tooth][2]);
        }
        CHECK.due("14 trace", x.trace(1, 0), 1);
        CHECK.due("14 trace", x.trace(1, 1), 0);
        CHECK.due("14 trace of what was not paid", x.trace(2, 1), -9);
        CHECK.due("14 what it should be stays", x.should(3, 0), 1);
        CHECK.due("14 for nothing", x.pay(3, 2, 0), 0);
        CHECK.due("14 that too is a bargain", x.about(4), 2);
        x = Check.market("L01T5R90");
        for (int i = 0; i < 99; i++) {
            x.handle(0);
        }
        x.pay(0, 3, 50);
        CHECK.due("14 wear is 99 at most", x.tooth(0, 2), 99);
    }

    private static void payIsLate() {
        TeethForCoins x = Check.market("L01T5R00");
        CHECK.due("14 LATE", x.pay(0, 1, 49), -3);
        CHECK.due("14 LATE changes nothing", x.about(4), 0);
        for (int i = 0; i < 8; i++) {
            x.pay(0, 1, 0);
        }
        CHECK.due("14 LATE ahead of FULL", x.pay(0, 1, 49), -3);
        CHECK.due("14 BAD ahead of FULL", x.pay(0, 1, 1000), -2);
    }

    private static void payIsFull() {
        TeethForCoins x = Check.market("L01T5R00");
        for (int i = 0; i < 8; i++) {
            CHECK.due("14 from one to the other", x.pay(i % 2, 1 - i % 2, 50), 1);
        }
        CHECK.due("14 FULL", x.pay(0, 1, 50), -4);
        CHECK.due("14 FULL: for nothing too", x.pay(0, 1, 0), -4);
        CHECK.due("14 FULL changes nothing", x.tooth(0, 3), 0);
        CHECK.due("14 FULL changes nothing", x.tooth(0, 2), 8);
        for (int i = 0; i < 8; i++) {
            CHECK.due("22 of nine owners eight", x.trace(0, i), i % 2);
        }
        CHECK.due("22 beyond", x.trace(0, 8), -9);
        CHECK.due("15 one less", x.undo(), 7);
        CHECK.due("14 goes again", x.pay(1, 2, 50), 1);
        CHECK.due("22 beyond still", x.trace(0, 8), -9);
    }

    private static void undo() {
        TeethForCoins x = Check.market("L21T5R00T3R01T4L02");
        CHECK.due("15 LATE", x.undo(), -3);
        x.pay(0, 1, 20);
        x.pay(1, 2, 48);
        CHECK.due("15 how many are left", x.undo(), 1);
        CHECK.due("15 owner ahead of the last", x.tooth(0, 3), 1);
        CHECK.due("15 wear ahead of the last", x.tooth(0, 2), 1);
        CHECK.due("15 trace ahead of the last", x.trace(0, 2), -9);
        CHECK.due("15 how many are left", x.undo(), 0);
        CHECK.due("15 owner ahead of the first", x.tooth(0, 3), 0);
        CHECK.due("15 owner of the change", x.tooth(1, 3), 1);
        CHECK.due("15 wear ahead of the first", x.tooth(1, 2), 0);
        CHECK.due("15 trace ahead of the first", x.trace(1, 1), -9);
        CHECK.due("15 trace ahead of the first", x.trace(1, 0), 1);
        CHECK.due("15 LATE", x.undo(), -3);
    }

    private static void undoLeavesWhatCameSince() {
        TeethForCoins x = Check.market("L01T5R00");
        x.pay(0, 1, 50);
        x.caught(2, 1L);
        x.handle(1);
        x.pay(2, 3, x.tooth(1, 4));
        x.caught(2, 2L);
        x.handle(2);
        CHECK.due("15 left", x.undo(), 1);
        CHECK.due("15 teeth stay", x.about(0), 3);
        CHECK.due("15 owner back", x.tooth(1, 3), 2);
        CHECK.due("15 handled ahead of it", x.tooth(1, 2), 1);
        CHECK.due("15 one that came since", x.tooth(2, 2), 1);
        CHECK.due("15 the first bargain holds", x.tooth(0, 3), 1);
        x.handle(1);
        CHECK.due("15 left", x.undo(), 0);
        CHECK.due("15 teeth stay", x.about(0), 3);
        CHECK.due("15 one that came since", x.tooth(1, 2), 2);
        CHECK.due("15 back", x.tooth(0, 3), 0);
    }

    private static void undoTakesBackWhatWasDone() {
        TeethForCoins x = Check.market("L01T5R20T6L11T7R02");
        x.rate(0, 1, 2, 3);
        x.pay(0, 2, 50);
        x.handle(1);
        x.bite(2);
        x.bite(0);
        x.should(0, 33);
        x.rate(0, 1, 4, 5);
        CHECK.due("15 left", x.undo(), 0);
        CHECK.due("15 size of what was bitten since", x.tooth(2, 0), 7);
        CHECK.due("15 wear of what was handled since", x.tooth(1, 2), 1);
        CHECK.due("15 size of what was paid", x.tooth(0, 0), 5);
        CHECK.due("15 wear of what was paid", x.tooth(0, 2), 2);
        CHECK.due("15 what it should be stays", x.should(0, 0), 33);
        CHECK.due("15 rates stay", x.rate(0, 1, 1, 1), 405);
    }

    private static void tooMuch(TeethForCoins x, int person, int price, int worth, int set) {
        CHECK.due("16 worth for " + price, x.tooMuch(person, price, false), worth);
        CHECK.due("16 set for " + price, x.tooMuch(person, price, true), set);
    }

    private static void tooMuch() {
        // 0 has 50, 20, 20, 30; 1 has 40.
        TeethForCoins x = Check.market("L01T5R00T2R00T2R00T4R01T3R00");
        tooMuch(x, 0, 0, 0, 0);
        tooMuch(x, 0, 1, 20, 2);
        tooMuch(x, 0, 20, 20, 2);
        tooMuch(x, 0, 21, 30, 16);
        tooMuch(x, 0, 35, 40, 6);
        tooMuch(x, 0, 41, 50, 1);
        tooMuch(x, 0, 61, 70, 3);
        tooMuch(x, 0, 71, 80, 17);
        tooMuch(x, 0, 91, 100, 19);
        tooMuch(x, 0, 120, 120, 23);
        tooMuch(x, 0, 121, -9, -9);
        tooMuch(x, 1, 40, 40, 8);
        tooMuch(x, 1, 41, -9, -9);
        tooMuch(x, 2, 0, 0, 0);
        tooMuch(x, 2, 1, -9, -9);
        tooMuch(Check.market("L91T1R90T5R00"), 0, 50, 50, 2);
        tooMuch(Check.market("L09" + "T9L02".repeat(10)), 2, 999, 1620, 3);
        for (int no : NO_PEOPLE) {
            CHECK.due("16 UNKNOWN", x.tooMuch(no, 1, true), -1);
            CHECK.due("16 UNKNOWN ahead of BAD", x.tooMuch(no, -1, false), -1);
        }
        for (int no : NO_PRICES) {
            CHECK.due("16 BAD", x.tooMuch(0, no, true), -2);
            CHECK.due("16 BAD", x.tooMuch(0, no, false), -2);
        }
    }

    private static void sums() {
        // 0 has 50 and 20; 1 has 30: 50, 20, 70, 40, 20 again (50 - 30); 2 has 50.
        TeethForCoins x = Check.market("L01T5R00T2R00T3R01T5R02");
        CHECK.due("17 sums", x.sums(0, 1, 999), 4);
        CHECK.due("17 up to n", x.sums(0, 1, 50), 3);
        CHECK.due("17 up to n", x.sums(0, 1, 49), 2);
        CHECK.due("17 up to n", x.sums(0, 1, 19), 0);
        CHECK.due("17 from 1", x.sums(0, 1, 1), 0);
        CHECK.due("17 the other way", x.sums(1, 0, 999), 2);
        CHECK.due("17 0 is none of them", x.sums(0, 2, 999), 3);
        CHECK.due("17 nothing to pay with", x.sums(3, 0, 999), 0);
        CHECK.due("17 no change", x.sums(0, 3, 999), 3);
        CHECK.due("17 each time anew", x.sums(0, 3, 999), 3);
        CHECK.due("17 price 1", Check.market("L11T1R90").sums(0, 1, 1), 1);
        // 810 and 189 are 999.
        CHECK.due("17 price 999 is one", Check.market("L19T9L00T3L90").sums(0, 1, 999), 3);
        CHECK.due("17 price 999 is beyond", Check.market("L19T9L00T3L90").sums(0, 1, 998), 2);
        CHECK.due("17 1080 is beyond", Check.market("L19T9L00T3L00").sums(0, 1, 999), 2);
        for (int no : NO_PEOPLE) {
            CHECK.due("17 UNKNOWN", x.sums(no, 1, 1), -1);
            CHECK.due("17 UNKNOWN", x.sums(1, no, 1), -1);
            CHECK.due("17 UNKNOWN ahead of BAD", x.sums(no, no, 0), -1);
        }
        for (int no : NO_PRICES) {
            CHECK.due("17 BAD", x.sums(0, 1, no), -2);
        }
        CHECK.due("17 BAD", x.sums(0, 1, 0), -2);
        CHECK.due("17 BAD: both are one", x.sums(1, 1, 1), -2);
    }

    private static void spent(TeethForCoins x, int person, int use, int set) {
        CHECK.due("18 use", x.spent(person, false), use);
        CHECK.due("18 goods", x.spent(person, true), set);
    }

    private static void spent() {
        // 0 has 50, 1 has 60, 2 has 49, 3 has 0.
        String teeth = "L11T5R00T6R01T5R12T1R93";
        TeethForCoins x = Check.market(teeth + "G309G255G255G991");
        spent(x, 0, 10, 6);
        spent(x, 1, 14, 3);
        spent(x, 2, 9, 1);
        spent(x, 3, 0, 0);
        // Of like use the least prices together, though another set is less.
        spent(Check.market(teeth + "G504G402G102G092"), 0, 4, 12);
        // Of like prices too the least set: 1 against 12, 11 against 13 and 14.
        spent(Check.market(teeth + "G504G492G302G202"), 0, 4, 1);
        spent(Check.market(teeth + "G202G202G202G102"), 0, 6, 11);
        // What is of no use is not bought.
        spent(Check.market(teeth + "G010G019G010"), 0, 9, 2);
        // All that one has goes.
        spent(Check.market(teeth + "G251G251"), 0, 2, 3);
        spent(Check.market(teeth + "G251G251"), 2, 1, 1);
        spent(Check.market(teeth), 0, 0, 0);
        spent(Check.market("L01B5R00G501"), 0, 1, 1);
        for (int no : NO_PEOPLE) {
            CHECK.due("18 UNKNOWN", x.spent(no, true), -1);
            CHECK.due("18 UNKNOWN", x.spent(no, false), -1);
        }
    }
}
