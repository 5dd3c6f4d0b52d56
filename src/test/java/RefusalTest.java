import java.util.LinkedHashMap;
import java.util.Map;

/** "What is refused changes nothing", "Of several what is told first": every refusal of promises 2 to 33. */
public final class RefusalTest {
    private static final Check CHECK = new Check("RefusalTest");
    private static final Twins TWINS = new Twins(CHECK);
    private static final int[] FAR = {Integer.MIN_VALUE, Integer.MAX_VALUE};
    private static final int UNKNOWN = -1, BAD = -2, LATE = -3, FULL = -4;

    /** Ten TEETH, five BARGAINS, both SLOTS kept, RATES told, THE TEXT 66 bytes and no MARKET. */
    private static void much(TeethForCoins x) {
        Check.tell(x, "L23T5L00T2R01B1R90T3L22T1L03T4R10B6L31T2R02T9R00T1R00G309G255G107");
        x.market();
        x.rate(0, 1, 3, 2);
        x.rate(2, 1, 7, 5);
        // The tooth 8 is paid, 1 is the change.
        stands(x.pay(0, 1, 70), 2);
        x.should(3, 1);
        x.keep(0);
        x.pay(1, 2, 0);
        stands(x.pay(0, 2, x.tooth(9, 4)), 1);
        x.handle(4);
        x.bite(8);
        x.keep(1);
        x.rate(3, 0, 50, 51);
        stands(x.pay(3, 0, x.tooth(4, 4)), 1);
        x.pay(2, 3, 0);
        stands(x.write(1, 'X'), 66);
        stands(x.about(4), 5);
    }

    private static void stands(int answer, int due) {
        if (answer != due) {
            throw new IllegalStateException("the story goes otherwise: " + answer + ", not " + due);
        }
    }

    /** As much, but eight BARGAINS and 72 bytes. */
    private static void full(TeethForCoins x) {
        much(x);
        for (int i = 0; i < 3; i++) {
            x.pay(3, 2, 0);
        }
        stands(x.write(6, 0x4C3131544C4CL), 72);
        stands(x.about(4), 8);
    }

    /** Four TEETH, one GOOD, no BARGAIN, one SLOT kept, THE TEXT a MARKET. */
    private static void little(TeethForCoins x) {
        Check.tell(x, "L11T1L00B2R11G109T5R12T4L93");
        x.market();
        x.should(2, 40);
        x.keep(1);
        x.rate(1, 2, 98, 99);
        x.handle(3);
    }

    public static void main(String[] args) {
        text();
        market();
        payments();
        payIsLateOrFull();
        purses();
        teethCome();
        teethLive();
        chances();
        monies();
        theft();
        slots();
        asksChangeNothing();
        CHECK.end();
    }

    private static void refused(String what, Twins.Call call, int due) {
        TWINS.leaveAll(what + " of little", RefusalTest::little, call, due);
        TWINS.leaveAll(what + " of much", RefusalTest::much, call, due);
        TWINS.leaveAll(what + " of a full one", RefusalTest::full, call, due);
    }

    private static void text() {
        for (int n : new int[] {0, 9, -1, 65, FAR[0], FAR[1]}) {
            refused("2 BAD: n is " + n, x -> x.write(n, 0x4C3131L), BAD);
        }
        TWINS.leaveAll("2 FULL: 73", RefusalTest::full, x -> x.write(1, '0'), FULL);
        TWINS.leaveAll("2 FULL: 80", RefusalTest::full, x -> x.write(8, -1L), FULL);
        Twins.Story at65 = x -> {
            much(x);
            x.wipe();
            Check.tell(x, "L11T1L00" + "G111".repeat(4) + "T2R11".repeat(8) + "B");
            stands(x.about(5), 65);
        };
        TWINS.leaveAll("2 FULL: 65 and 8", at65, x -> x.write(8, -1L), FULL);
        Twins.Story at71 = x -> {
            at65.on(x);
            stands(x.write(6, 0x364C30314731L), 71);
        };
        TWINS.leaveAll("2 FULL: 71 and 2", at71, x -> x.write(2, 0x3031L), FULL);
    }

    private static void market() {
        TWINS.leaveAll("5 LATE: empty", x -> { }, TeethForCoins::market, LATE);
        TWINS.leaveAll("5 LATE", RefusalTest::much, TeethForCoins::market, LATE);
        TWINS.leaveAll("5 LATE: a full one", RefusalTest::full, TeethForCoins::market, LATE);
        for (String faulty : new String[] {"L", "L00", "L11T5L04", "L11T5L0", "L11G001", "L22T9R11X"}) {
            TWINS.leaveAll("5 LATE: " + faulty, x -> {
                little(x);
                x.wipe();
                Check.tell(x, faulty);
            }, TeethForCoins::market, LATE);
        }
        for (int what : new int[] {-1, 7, FAR[0], FAR[1]}) {
            refused("6 BAD: " + what, x -> x.about(what), BAD);
        }
        for (int no : new int[] {-1, 10, FAR[0], FAR[1]}) {
            refused("7 UNKNOWN: " + no, x -> x.tooth(no, 0), UNKNOWN);
            refused("7 UNKNOWN ahead of BAD: " + no, x -> x.tooth(no, 6), UNKNOWN);
            refused("8 UNKNOWN: " + no, x -> x.good(no, 0), UNKNOWN);
            refused("8 UNKNOWN ahead of BAD: " + no, x -> x.good(no, 2), UNKNOWN);
            refused("9 UNKNOWN: " + no, x -> x.purse(no), UNKNOWN);
            refused("10 UNKNOWN: " + no, x -> x.handle(no), UNKNOWN);
            refused("11 UNKNOWN: " + no, x -> x.bite(no), UNKNOWN);
        }
        for (int what : new int[] {-1, 6, FAR[0], FAR[1]}) {
            refused("7 BAD: " + what, x -> x.tooth(0, what), BAD);
            refused("8 BAD: " + what, x -> x.good(0, what == 6 ? 2 : what), BAD);
        }
        TWINS.leaveAll("7 UNKNOWN: 4 of 4", RefusalTest::little, x -> x.tooth(4, 0), UNKNOWN);
        TWINS.leaveAll("8 UNKNOWN: 1 of 1", RefusalTest::little, x -> x.good(1, 0), UNKNOWN);
        TWINS.leaveAll("8 UNKNOWN: 3 of 3", RefusalTest::much, x -> x.good(3, 1), UNKNOWN);
        TWINS.leaveAll("10 UNKNOWN: 4 of 4", RefusalTest::little, x -> x.handle(4), UNKNOWN);
        TWINS.leaveAll("11 UNKNOWN: 4 of 4", RefusalTest::little, x -> x.bite(4), UNKNOWN);
        TWINS.leaveAll("11 LATE", RefusalTest::little, x -> x.bite(0), LATE);
        TWINS.leaveAll("11 LATE: worn", RefusalTest::much, x -> x.bite(2), LATE);
        TWINS.leaveAll("11 LATE: handled", RefusalTest::full, x -> x.bite(4), LATE);
    }

    /** One of two that is none, so that neither the first nor the second may be left out. */
    private interface Of {
        long on(TeethForCoins x, int one, int other);
    }

    private static void two(String what, Of of) {
        for (int no : new int[] {-1, 4, FAR[0], FAR[1]}) {
            refused(what + " UNKNOWN: the first is " + no, x -> of.on(x, no, 1), UNKNOWN);
            refused(what + " UNKNOWN: the second is " + no, x -> of.on(x, 3, no), UNKNOWN);
            refused(what + " UNKNOWN: both are " + no, x -> of.on(x, no, no), UNKNOWN);
        }
    }

    private static void payments() {
        two("12", (x, one, other) -> x.fewest(one, other, 0));
        two("12 ahead of BAD", (x, one, other) -> x.fewest(one, other, 1000));
        two("13", (x, one, other) -> x.paid(one, other, 0, false));
        two("13 ahead of BAD", (x, one, other) -> x.paid(one, other, -1, true));
        two("14", (x, one, other) -> x.pay(one, other, 0));
        two("14 ahead of BAD", (x, one, other) -> x.pay(one, other, 1000));
        two("17", (x, one, other) -> x.sums(one, other, 1));
        two("17 ahead of BAD", (x, one, other) -> x.sums(one, other, 0));
        for (int price : new int[] {-1, 1000, FAR[0], FAR[1]}) {
            refused("12 BAD: price " + price, x -> x.fewest(0, 3, price), BAD);
            refused("13 BAD: price " + price, x -> x.paid(0, 3, price, false), BAD);
            refused("13 BAD: price " + price, x -> x.paid(3, 0, price, true), BAD);
            refused("14 BAD: price " + price, x -> x.pay(0, 3, price), BAD);
            refused("16 BAD: price " + price, x -> x.tooMuch(0, price, false), BAD);
            refused("16 BAD: price " + price, x -> x.tooMuch(3, price, true), BAD);
        }
        for (int n : new int[] {0, -1, 1000, FAR[0], FAR[1]}) {
            refused("17 BAD: n is " + n, x -> x.sums(0, 3, n), BAD);
        }
        for (int person = 0; person < 4; person++) {
            int both = person;
            refused("12 BAD: both are " + both, x -> x.fewest(both, both, 0), BAD);
            refused("13 BAD: both are " + both, x -> x.paid(both, both, 0, true), BAD);
            refused("14 BAD: both are " + both, x -> x.pay(both, both, 0), BAD);
            refused("17 BAD: both are " + both, x -> x.sums(both, both, 1), BAD);
        }
    }

    private static void payIsLateOrFull() {
        refused("14 LATE: it can not be paid", x -> x.pay(0, 1, 998), LATE);
        TWINS.leaveAll("14 LATE: no TEETH", x -> { }, x -> x.pay(2, 3, 1), LATE);
        TWINS.leaveAll("14 LATE ahead of FULL", RefusalTest::full, x -> x.pay(0, 1, 999), LATE);
        TWINS.leaveAll("14 FULL", RefusalTest::full, x -> x.pay(0, 1, x.purse(0)), FULL);
        TWINS.leaveAll("14 FULL: price 0", RefusalTest::full, x -> x.pay(3, 1, 0), FULL);
        TWINS.leaveAll("14 FULL once more", x -> {
            full(x);
            x.undo();
            x.pay(1, 0, 0);
        }, x -> x.pay(3, 1, 0), FULL);
        TWINS.leaveAll("15 LATE", RefusalTest::little, TeethForCoins::undo, LATE);
        TWINS.leaveAll("15 LATE: all are undone", x -> {
            full(x);
            for (int i = 0; i < 8; i++) {
                x.undo();
            }
        }, TeethForCoins::undo, LATE);
        TWINS.leaveAll("15 LATE: another MARKET", x -> {
            much(x);
            x.wipe();
            Check.tell(x, "L11T1L00");
            x.market();
        }, TeethForCoins::undo, LATE);
    }

    private static void purses() {
        for (int no : new int[] {-1, 4, FAR[0], FAR[1]}) {
            refused("9 UNKNOWN: " + no, x -> x.purse(no), UNKNOWN);
            refused("16 UNKNOWN: " + no, x -> x.tooMuch(no, 0, false), UNKNOWN);
            refused("16 UNKNOWN ahead of BAD: " + no, x -> x.tooMuch(no, 1000, true), UNKNOWN);
            refused("18 UNKNOWN: " + no, x -> x.spent(no, false), UNKNOWN);
            refused("18 UNKNOWN: " + no, x -> x.spent(no, true), UNKNOWN);
        }
    }

    private static void teethCome() {
        for (int no : new int[] {-1, 4, FAR[0], FAR[1]}) {
            // Of a full one this is UNKNOWN ahead of FULL.
            refused("19 UNKNOWN: " + no, x -> x.caught(no, 5L), UNKNOWN);
        }
        for (int n : new int[] {0, -1, 11, FAR[0], FAR[1]}) {
            refused("20 BAD: " + n, x -> x.washed(n, 5L), BAD);
        }
        TWINS.leaveAll("19 FULL", RefusalTest::much, x -> x.caught(2, 5L), FULL);
        TWINS.leaveAll("20 FULL", RefusalTest::much, x -> x.washed(1, 5L), FULL);
        TWINS.leaveAll("20 FULL", RefusalTest::full, x -> x.washed(10, 5L), FULL);
        TWINS.leaveAll("20 FULL: 4 and 7", RefusalTest::little, x -> x.washed(7, 5L), FULL);
        TWINS.leaveAll("20 FULL: 4 and 10", RefusalTest::little, x -> x.washed(10, 5L), FULL);
    }

    private static void teethLive() {
        for (int no : new int[] {-1, 10, FAR[0], FAR[1]}) {
            refused("21 UNKNOWN: " + no, x -> x.life(no, 1), UNKNOWN);
            refused("21 UNKNOWN ahead of BAD: " + no, x -> x.life(no, 0), UNKNOWN);
            refused("22 UNKNOWN: " + no, x -> x.trace(no, 0), UNKNOWN);
            refused("22 UNKNOWN, not NONE: " + no, x -> x.trace(no, 8), UNKNOWN);
            refused("23 UNKNOWN: " + no, x -> x.inflated(no, 0), UNKNOWN);
            refused("23 UNKNOWN ahead of BAD: " + no, x -> x.inflated(no, 10000), UNKNOWN);
        }
        for (int m : new int[] {0, -1, 1000, FAR[0], FAR[1]}) {
            refused("21 BAD: " + m, x -> x.life(0, m), BAD);
        }
        for (int z : new int[] {-1, 10000, FAR[0], FAR[1]}) {
            refused("23 BAD: " + z, x -> x.inflated(0, z), BAD);
        }
        TWINS.leaveAll("23 UNKNOWN: 3 of 3", RefusalTest::much, x -> x.inflated(3, 0), UNKNOWN);
        Twins.Story worthless = x -> {
            Check.tell(x, "L52T1R91B4L91G505");
            x.market();
        };
        TWINS.leaveAll("23 LATE", worthless, x -> x.inflated(0, 5), LATE);
        TWINS.leaveAll("23 BAD ahead of LATE", worthless, x -> x.inflated(0, -1), BAD);
        TWINS.leaveAll("23 UNKNOWN ahead of LATE", worthless, x -> x.inflated(1, 0), UNKNOWN);
    }

    private static void chances() {
        int[][] bad = {{-1, 5, 5, 3, 1}, {11, 5, 5, 3, 1}, {5, -1, 5, 3, 1}, {5, 11, 5, 3, 1}, {5, 5, -1, 3, 1},
            {5, 5, 11, 3, 1}, {5, 5, 5, 0, 0}, {5, 5, 5, 7, 1}, {5, 5, 5, 3, -1}, {5, 5, 5, 3, 4}, {10, 0, 5, 3, 4}};
        for (int[] of : bad) {
            refused("24 BAD", x -> x.doubt(of[0], of[1], of[2], of[3], of[4], true), BAD);
            refused("24 BAD", x -> x.doubt(of[0], of[1], of[2], of[3], of[4], false), BAD);
        }
        refused("24 LATE", x -> x.doubt(10, 0, 5, 3, 1, true), LATE);
        refused("24 LATE", x -> x.doubt(0, 5, 10, 3, 1, false), LATE);
        int[][] badAmong = {{0, 5, 0}, {11, 5, 1}, {3, -1, 1}, {3, 11, 1}, {3, 5, -1}, {3, 5, 4}};
        for (int[] of : badAmong) {
            refused("25 BAD", x -> x.among(of[0], of[1], of[2], true), BAD);
            refused("25 BAD", x -> x.among(of[0], of[1], of[2], false), BAD);
        }
    }

    private static void monies() {
        two("26", (x, one, other) -> x.rate(one, other, 8, 9));
        two("26 ahead of BAD", (x, one, other) -> x.rate(one, other, 0, 100));
        for (int no : new int[] {0, -1, 100, FAR[0], FAR[1]}) {
            refused("26 BAD: a is " + no, x -> x.rate(0, 1, no, 9), BAD);
            refused("26 BAD: b is " + no, x -> x.rate(0, 1, 9, no), BAD);
        }
        for (int money = 0; money < 4; money++) {
            int both = money;
            refused("26 BAD: both are " + both, x -> x.rate(both, both, 1, 1), BAD);
        }
    }

    private static void theft() {
        for (int no : new int[] {-1, 10, FAR[0], FAR[1]}) {
            refused("29 UNKNOWN: " + no, x -> x.should(no, 5), UNKNOWN);
            refused("29 UNKNOWN ahead of BAD: " + no, x -> x.should(no, 100), UNKNOWN);
        }
        TWINS.leaveAll("29 UNKNOWN: 4 of 4", RefusalTest::little, x -> x.should(4, 99), UNKNOWN);
        for (int w : new int[] {-1, 100, FAR[0], FAR[1]}) {
            refused("29 BAD: " + w, x -> x.should(2, w), BAD);
        }
    }

    private static void slots() {
        for (int no : new int[] {-1, 2, FAR[0], FAR[1]}) {
            refused("32 UNKNOWN: " + no, x -> x.keep(no), UNKNOWN);
            refused("33 UNKNOWN: " + no, x -> x.again(no), UNKNOWN);
        }
        TWINS.leaveAll("33 LATE", RefusalTest::little, x -> x.again(0), LATE);
        TWINS.leaveAll("33 LATE: a new one", x -> { }, x -> x.again(1), LATE);
    }

    /** Calls that only ask leave all as it was, too. */
    private static void asksChangeNothing() {
        Map<String, Twins.Call> asks = new LinkedHashMap<>();
        asks.put("4 fault", TeethForCoins::fault);
        asks.put("6 about", x -> x.about(4));
        asks.put("7 tooth", x -> x.tooth(1, 4));
        asks.put("8 good", x -> x.good(0, 1));
        asks.put("9 purse", x -> x.purse(0));
        asks.put("12 fewest", x -> x.fewest(0, 1, x.purse(0)));
        asks.put("12 fewest: NONE", x -> x.fewest(0, 1, 997));
        asks.put("13 paid", x -> x.paid(0, 1, x.purse(0), false));
        asks.put("13 change", x -> x.paid(0, 1, 997, true));
        asks.put("16 too much", x -> x.tooMuch(0, 10, true));
        asks.put("17 sums", x -> x.sums(0, 2, 500));
        asks.put("18 spent", x -> x.spent(0, true));
        asks.put("21 life", x -> x.life(3, 7));
        asks.put("22 trace", x -> x.trace(0, 1));
        asks.put("23 inflated", x -> x.inflated(0, 999));
        asks.put("24 doubt", x -> x.doubt(3, 8, 1, 3, 2, true));
        asks.put("25 among", x -> x.among(5, 2, 1, false));
        asks.put("27 ring", x -> x.ring(false));
        asks.put("28 ringAt", x -> x.ringAt(3));
        asks.put("30 stolen", TeethForCoins::stolen);
        asks.put("31 thief", TeethForCoins::thief);
        for (Map.Entry<String, Twins.Call> ask : asks.entrySet()) {
            asked(ask.getKey(), RefusalTest::little, ask.getValue());
            asked(ask.getKey(), RefusalTest::full, ask.getValue());
        }
    }

    private static void asked(String what, Twins.Story story, Twins.Call call) {
        TeethForCoins x = new TeethForCoins();
        story.on(x);
        TWINS.leaveAll(what + " asks", story, call, call.on(x));
    }
}
