/** Promises 1 to 11: a new object, THE TEXT, THE MARKET, what TEETH and GOODS are, HANDLED, BITTEN. */
public final class MarketTest {
    private static final Check CHECK = new Check("MarketTest");
    private static final int[] NO_NUMBERS = {-1, Integer.MIN_VALUE, Integer.MAX_VALUE};

    public static void main(String[] args) {
        newObject();
        write();
        wipe();
        faultsOfSigns();
        faultsOfNumbers();
        market();
        about();
        tooth();
        good();
        purse();
        handle();
        bite();
        CHECK.end();
    }

    private static void newObject() {
        CHECK.due("1 UNKNOWN", TeethForCoins.UNKNOWN, -1);
        CHECK.due("1 BAD", TeethForCoins.BAD, -2);
        CHECK.due("1 LATE", TeethForCoins.LATE, -3);
        CHECK.due("1 FULL", TeethForCoins.FULL, -4);
        CHECK.due("1 NONE", TeethForCoins.NONE, -9);
        TeethForCoins x = new TeethForCoins();
        long[] first = {0, 0, 1, 1, 0, 0, 0};
        for (int what = 0; what < first.length; what++) {
            CHECK.due("1 about " + what, x.about(what), first[what]);
        }
        CHECK.due("1 no tooth", x.tooth(0, 0), -1);
        CHECK.due("1 no good", x.good(0, 0), -1);
        for (int person = 0; person < 4; person++) {
            CHECK.due("1 purse", x.purse(person), 0);
        }
        CHECK.due("1 no slot is full", x.again(0), -3);
        CHECK.due("1 rate", x.rate(2, 3, 1, 1), 101);
        x.caught(0, 123456789L);
        x.handle(0);
        CHECK.due("1 LOSS is 1", x.tooth(0, 4), 10 * x.tooth(0, 0) - 1);
    }

    private static void write() {
        TeethForCoins x = new TeethForCoins();
        for (int n : new int[] {0, 9, -1, Integer.MIN_VALUE, Integer.MAX_VALUE}) {
            CHECK.due("2 BAD " + n, x.write(n, 0x4C3131L), -2);
        }
        CHECK.due("2 BAD changes nothing", x.about(5), 0);
        // The lowest three bytes, the highest of these first: L, 5, 7.
        CHECK.due("2 lowest bytes", x.write(3, 0x5858584C3537L), 3);
        CHECK.due("2 no fault", x.fault(), -9);
        x.market();
        CHECK.due("2 highest first", x.about(2), 5);
        CHECK.due("2 highest first", x.about(3), 7);
        CHECK.due("2 behind", x.write(4, 0x47303939L), 7);
        x.market();
        CHECK.due("2 behind", x.good(0, 0), 9);
        CHECK.due("2 eight", x.write(8, -1L), 15);
        for (int length = 23; length <= 71; length += 8) {
            CHECK.due("2 length", x.write(8, 0L), length);
        }
        CHECK.due("2 FULL", x.write(2, 0L), -4);
        CHECK.due("2 FULL: nothing comes", x.about(5), 71);
        CHECK.due("2 BAD ahead of FULL", x.write(9, 0L), -2);
        CHECK.due("2 72 goes in", x.write(1, 0L), 72);
        CHECK.due("2 FULL", x.write(1, 0L), -4);
        CHECK.due("2 BAD ahead of FULL", x.write(0, 0L), -2);
        x.wipe();
        // A byte beyond 127 must not run over into its neighbours.
        CHECK.due("2 eight bytes", x.write(8, 0x4C3131FF00000000L), 8);
        CHECK.due("2 byte 255", x.fault(), 3);
    }

    private static void wipe() {
        TeethForCoins x = Check.market("L23T4L11");
        CHECK.due("3 how long it was", x.wipe(), 8);
        CHECK.due("3 empty", x.about(5), 0);
        CHECK.due("3 again", x.wipe(), 0);
        CHECK.due("3 THE MARKET stays", x.about(0), 1);
        CHECK.due("3 LOSS stays", x.about(2), 2);
    }

    private static void fault(String text, int due) {
        TeethForCoins x = new TeethForCoins();
        Check.tell(x, text);
        CHECK.due("4 fault of " + text, x.fault(), due);
        CHECK.due("4 tells no other next time " + text, x.fault(), due);
        CHECK.due("5 market of " + text, x.market() == -3 ? 1 : 0, due == -9 ? 0 : 1);
    }

    private static void faultsOfSigns() {
        fault("", 0);
        fault("L", 1);
        fault("L0", 2);
        fault("L01", -9);
        fault("L99", -9);
        fault("X", 0);
        fault("l11", 0);
        fault("T1L00", 0);
        fault("G111", 0);
        fault("L/1", 1);
        fault("L:1", 1);
        fault("L10", 2);
        fault("L1:", 2);
        fault("L11L11", 3);
        fault("L11 ", 3);
        fault("L11t", 3);
        fault("L11T", 4);
        fault("L11B", 4);
        fault("L11T0", 4);
        fault("L11T:", 4);
        fault("L11B0", 4);
        fault("L11T1", 5);
        fault("L11T9l", 5);
        fault("L11T9M", 5);
        fault("L11B9X", 5);
        fault("L11T9L", 6);
        fault("L11T9R", 6);
        fault("L11T9LL", 6);
        fault("L11T9L9", 7);
        fault("L11T9L94", 7);
        fault("L11T9L9/", 7);
        fault("L11T9L93", -9);
        fault("L11B1R00", -9);
        fault("L11B1R04", 7);
        fault("L11G", 4);
        fault("L11G0", 5);
        fault("L11G00", 5);
        fault("L11G01", 6);
        fault("L11G10", 6);
        fault("L11GA", 4);
        fault("L11G1A", 5);
        fault("L11G10A", 6);
        fault("L11G990", -9);
        fault("L11G010G109T1L00B9R93G019", -9);
        fault("L11G010Z", 7);
        fault("L11\u00ff", 3);
        fault("\u00cc11", 0);
        fault("L11T9L9\u00b3", 7);
    }

    private static void faultsOfNumbers() {
        String ten = "L11" + "T1L00".repeat(9) + "B1L00";
        fault(ten, -9);
        fault(ten + "T", 53);
        fault(ten + "B", 53);
        fault(ten + "G", 54);
        String four = "L11" + "G111".repeat(4);
        fault(four, -9);
        fault(four + "G", 19);
        fault(four + "T", 20);
        fault(ten + "G111".repeat(4), -9);
        fault(ten + "G111".repeat(4) + "G", 69);
        fault(ten + "G111".repeat(4) + "TXX", 69);
        // The first of several holds.
        fault("L11T0T0", 4);
    }

    private static void market() {
        TeethForCoins x = new TeethForCoins();
        Check.tell(x, "L34T5L21G123B9R03G991");
        CHECK.due("5 not yet", x.about(0), 0);
        CHECK.due("5 how many teeth", x.market(), 2);
        CHECK.due("5 THE TEXT stays", x.about(5), 21);
        CHECK.due("5 a goods' number", x.good(1, 0), 99);
        CHECK.due("5 a tooth's number", x.tooth(1, 0), 9);
        CHECK.due("5 trace", x.trace(1, 0), 3);
        CHECK.due("5 trace", x.trace(1, 1), -9);
        CHECK.due("5 should", x.should(0, 2), 2);
        x.rate(0, 1, 5, 6);
        CHECK.due("5 a bargain", x.pay(3, 0, 90), 1);
        x.keep(1);
        x.should(1, 50);
        CHECK.due("5 bargains", x.about(4), 1);
        CHECK.due("5 once more", x.market(), 2);
        CHECK.due("5 no bargains", x.about(4), 0);
        CHECK.due("5 no bargains", x.undo(), -3);
        CHECK.due("5 owner as told", x.tooth(1, 3), 3);
        CHECK.due("5 wear as told", x.tooth(1, 2), 0);
        CHECK.due("5 trace as told", x.trace(1, 1), -9);
        CHECK.due("5 should as told", x.should(1, 7), 0);
        CHECK.due("5 rates stay", x.rate(0, 1, 1, 1), 506);
        CHECK.due("5 kept stays", x.again(1), 2);
        CHECK.due("5 kept stays", x.about(4), 1);
        x.write(1, 'L');
        CHECK.due("5 LATE", x.market(), -3);
        CHECK.due("5 LATE changes nothing", x.about(4), 1);
        x.wipe();
        CHECK.due("5 LATE: empty", x.market(), -3);
        Check.tell(x, "L09");
        CHECK.due("5 none", x.market(), 0);
        CHECK.due("5 no teeth", x.about(0), 0);
        CHECK.due("5 no goods", x.about(1), 0);
        CHECK.due("5 no good", x.good(0, 0), -1);
        CHECK.due("5 no fakes", x.about(6), 0);
        CHECK.due("5 loss", x.about(2), 0);
        CHECK.due("5 rate", x.about(3), 9);
    }

    private static void about() {
        TeethForCoins x = Check.market("L34B5L21G123B9R03G991T1L00");
        long[] due = {3, 2, 3, 4, 0, 26, 2};
        for (int what = 0; what < due.length; what++) {
            CHECK.due("6 about " + what, x.about(what), due[what]);
        }
        TeethForCoins fewer = Check.market("L11B5L00B5L00B5L00G111G112");
        fewer.wipe();
        Check.tell(fewer, "L11B5L00G113");
        fewer.market();
        CHECK.due("6 teeth of another market are gone", fewer.about(0), 1);
        CHECK.due("6 fakes of another market are gone", fewer.about(6), 1);
        CHECK.due("8 goods of another market are gone", fewer.good(1, 0), -1);
        CHECK.due("9 teeth of another market are gone", fewer.purse(0), 50);
        CHECK.due("12 teeth of another market are gone", fewer.fewest(0, 1, 100), -9);
        CHECK.due("18 goods of another market are gone", fewer.spent(0, false), 3);
        CHECK.due("23 teeth of another market are gone", fewer.inflated(0, 50), 22);
        CHECK.due("6 pay nothing", x.pay(0, 1, 0), 0);
        CHECK.due("6 bargains", x.about(4), 1);
        CHECK.due("6 BAD", x.about(7), -2);
        for (int no : NO_NUMBERS) {
            CHECK.due("6 BAD", x.about(no), -2);
        }
    }

    private static void tooth() {
        TeethForCoins x = Check.market("L34T5L21B9R93T1R92");
        long[][] due = {{5, 1, 2, 1, 176, 0}, {9, 0, 9, 3, 63, 1}, {1, 0, 9, 2, 0, 0}};
        for (int tooth = 0; tooth < 3; tooth++) {
            for (int what = 0; what < 6; what++) {
                CHECK.due("7 tooth " + tooth + ", " + what, x.tooth(tooth, what), due[tooth][what]);
            }
        }
        CHECK.due("7 UNKNOWN", x.tooth(3, 0), -1);
        CHECK.due("7 BAD", x.tooth(0, 6), -2);
        CHECK.due("7 UNKNOWN ahead of BAD", x.tooth(3, 6), -1);
        for (int no : NO_NUMBERS) {
            CHECK.due("7 UNKNOWN", x.tooth(no, 0), -1);
            CHECK.due("7 BAD", x.tooth(2, no), -2);
        }
        CHECK.due("7 a fake of a left side", Check.market("L11B4L10").tooth(0, 4), 39);
        CHECK.due("7 no loss", Check.market("L03T4L90").tooth(0, 4), 120);
    }

    private static void good() {
        TeethForCoins x = Check.market("L11G019G990G105G550");
        long[][] due = {{1, 9}, {99, 0}, {10, 5}, {55, 0}};
        for (int good = 0; good < 4; good++) {
            CHECK.due("8 price", x.good(good, 0), due[good][0]);
            CHECK.due("8 use", x.good(good, 1), due[good][1]);
        }
        CHECK.due("8 UNKNOWN", x.good(4, 0), -1);
        CHECK.due("8 BAD", x.good(3, 2), -2);
        CHECK.due("8 UNKNOWN ahead of BAD", x.good(4, 2), -1);
        for (int no : NO_NUMBERS) {
            CHECK.due("8 UNKNOWN", x.good(no, 0), -1);
            CHECK.due("8 BAD", x.good(0, no), -2);
        }
    }

    private static void purse() {
        TeethForCoins x = Check.market("L12T5L10T3R00B4R02T1R23");
        CHECK.due("9 purse", x.purse(0), 98 + 30);
        CHECK.due("9 nothing", x.purse(1), 0);
        CHECK.due("9 a fake counts", x.purse(2), 40);
        CHECK.due("9 purse", x.purse(3), 8);
        CHECK.due("9 UNKNOWN", x.purse(4), -1);
        for (int no : NO_NUMBERS) {
            CHECK.due("9 UNKNOWN", x.purse(no), -1);
        }
        CHECK.due("9 much", Check.market("L09" + "T9L03".repeat(10)).purse(3), 8100);
    }

    private static void handle() {
        TeethForCoins x = Check.market("L42T2L00T3R01");
        for (int worth : new int[] {32, 24, 16, 8, 0, 0}) {
            CHECK.due("10 worth", x.handle(0), worth);
        }
        CHECK.due("10 wear", x.tooth(0, 2), 6);
        CHECK.due("10 the other one's", x.tooth(1, 2), 0);
        for (int i = 0; i < 120; i++) {
            x.handle(1);
        }
        CHECK.due("10 99 at most", x.tooth(1, 2), 99);
        CHECK.due("10 what it should be stays", x.should(1, 0), 0);
        CHECK.due("10 UNKNOWN", x.handle(2), -1);
        for (int no : NO_NUMBERS) {
            CHECK.due("10 UNKNOWN", x.handle(no), -1);
        }
    }

    private static void bite() {
        TeethForCoins x = Check.market("L12T2L90T3R91");
        CHECK.due("11 worth", x.bite(0), 20);
        CHECK.due("11 size", x.tooth(0, 0), 1);
        CHECK.due("11 wear", x.tooth(0, 2), 0);
        CHECK.due("11 the other one's", x.tooth(1, 2), 9);
        x.handle(0);
        CHECK.due("11 LATE", x.bite(0), -3);
        CHECK.due("11 LATE changes nothing", x.tooth(0, 2), 1);
        CHECK.due("11 worth", x.bite(1), 20);
        CHECK.due("11 worth", x.bite(1), 10);
        CHECK.due("11 LATE", x.bite(1), -3);
        CHECK.due("11 what it should be stays", x.should(1, 0), 9);
        CHECK.due("11 UNKNOWN", x.bite(2), -1);
        for (int no : NO_NUMBERS) {
            CHECK.due("11 UNKNOWN", x.bite(no), -1);
        }
    }
}
