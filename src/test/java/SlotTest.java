/** Promises 32 and 33: kept, and gone on from. */
public final class SlotTest {
    private static final Check CHECK = new Check("SlotTest");
    private static final int[] NO_SLOTS = {2, -1, Integer.MIN_VALUE, Integer.MAX_VALUE};

    public static void main(String[] args) {
        keptAndAgain();
        bargainsAreKept();
        marketIsNotKept();
        slotsAreTwo();
        refusals();
        CHECK.end();
    }

    private static void keptAndAgain() {
        TeethForCoins x = Check.market("L11T5R00B4L91");
        x.handle(0);
        x.should(0, 7);
        x.rate(1, 3, 44, 55);
        CHECK.due("32 how many teeth", x.keep(0), 2);
        CHECK.due("32 changes nothing", x.tooth(0, 2), 1);
        x.washed(8, 3L);
        x.handle(0);
        x.bite(1);
        x.should(0, 8);
        x.rate(1, 3, 1, 2);
        x.pay(0, 2, x.tooth(0, 4));
        for (int i = 0; i < 2; i++) {
            CHECK.due("33 how many teeth", x.again(0), 2);
            CHECK.due("33 teeth", x.about(0), 2);
            CHECK.due("33 the third is gone", x.tooth(2, 0), -1);
            CHECK.due("33 owner", x.tooth(0, 3), 0);
            CHECK.due("33 wear", x.tooth(0, 2), 1);
            CHECK.due("33 size", x.tooth(1, 0), 4);
            CHECK.due("33 wear", x.tooth(1, 2), 9);
            CHECK.due("33 left", x.tooth(1, 1), 1);
            CHECK.due("33 fake", x.tooth(1, 5), 1);
            CHECK.due("33 trace", x.trace(0, 1), -9);
            CHECK.due("33 bargains", x.about(4), 0);
            CHECK.due("33 no bargain", x.undo(), -3);
            // What goes on from there must not come into the slot.
            CHECK.due("33 rate", x.rate(1, 3, 9, 9), 4455);
            CHECK.due("33 should", x.should(0, 50), 7);
            x.handle(1);
            x.caught(2, 8L);
        }
    }

    private static void bargainsAreKept() {
        TeethForCoins x = Check.market("L01T5R00T6R01");
        x.pay(0, 1, 50);
        x.pay(1, 2, 60);
        x.keep(1);
        x.undo();
        x.undo();
        x.handle(0);
        x.pay(1, 3, 60);
        x.pay(0, 3, 50);
        x.pay(3, 0, 110);
        CHECK.due("33 how many teeth", x.again(1), 2);
        CHECK.due("33 bargains", x.about(4), 2);
        CHECK.due("33 trace", x.trace(0, 0), 0);
        CHECK.due("33 trace", x.trace(0, 1), 1);
        CHECK.due("33 trace", x.trace(1, 1), 2);
        CHECK.due("33 owner", x.tooth(1, 3), 2);
        CHECK.due("33 undo", x.undo(), 1);
        CHECK.due("33 as ahead of the second", x.tooth(1, 3), 1);
        CHECK.due("33 as ahead of the second", x.tooth(0, 3), 1);
        CHECK.due("33 undo", x.undo(), 0);
        CHECK.due("33 as ahead of the first", x.tooth(0, 3), 0);
        CHECK.due("33 as ahead of the first", x.tooth(0, 2), 0);
        x.pay(0, 3, 50);
        CHECK.due("33 once more", x.again(1), 2);
        CHECK.due("33 bargains once more", x.about(4), 2);
        x.undo();
        x.undo();
        CHECK.due("33 as ahead of the first once more", x.tooth(0, 3), 0);
        // None is kept, though some are made.
        TeethForCoins y = Check.market("L01T5R00");
        y.keep(0);
        y.pay(0, 1, 50);
        y.again(0);
        CHECK.due("33 no bargains", y.about(4), 0);
        CHECK.due("33 no bargains", y.undo(), -3);
    }

    private static void marketIsNotKept() {
        TeethForCoins x = Check.market("L12T5L00G105G206");
        x.pay(0, 1, 0);
        x.keep(0);
        x.wipe();
        Check.tell(x, "L53G991");
        x.market();
        CHECK.due("33 how many teeth", x.again(0), 1);
        CHECK.due("33 LOSS is as it is", x.about(2), 5);
        CHECK.due("33 RATE is as it is", x.about(3), 3);
        CHECK.due("33 GOODS are as they are", x.about(1), 1);
        CHECK.due("33 a GOOD is as it is", x.good(0, 0), 99);
        CHECK.due("33 THE TEXT is as it is", x.about(5), 7);
        CHECK.due("33 worth by the law that is", x.tooth(0, 4), 150);
        CHECK.due("33 worth by the law that is", x.handle(0), 135);
        CHECK.due("33 bargains over a market", x.about(4), 1);
        CHECK.due("33 undo over a market", x.undo(), 0);
        CHECK.due("33 undo over a market", x.tooth(0, 4), 150);
    }

    private static void slotsAreTwo() {
        TeethForCoins x = new TeethForCoins();
        CHECK.due("32 no teeth", x.keep(1), 0);
        CHECK.due("33 LATE: the other one", x.again(0), -3);
        x.caught(0, 1L);
        CHECK.due("32 one", x.keep(0), 1);
        x.caught(1, 2L);
        CHECK.due("33 none", x.again(1), 0);
        CHECK.due("33 one", x.again(0), 1);
        x.caught(1, 2L);
        CHECK.due("32 over what was kept", x.keep(0), 2);
        x.again(1);
        CHECK.due("33 the later one", x.again(0), 2);
        CHECK.due("33 none were kept anew", new TeethForCoins().again(1), -3);
    }

    private static void refusals() {
        TeethForCoins x = Check.market("L11T5R00");
        for (int no : NO_SLOTS) {
            CHECK.due("32 UNKNOWN", x.keep(no), -1);
            CHECK.due("33 UNKNOWN", x.again(no), -1);
        }
        for (int slot = 0; slot < 2; slot++) {
            CHECK.due("33 LATE", x.again(slot), -3);
        }
        CHECK.due("33 what is refused changes nothing", x.about(0), 1);
    }
}
