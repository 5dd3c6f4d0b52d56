/**
 * Promises 1 to 11 sentence by sentence: of each one that names a bound, just inside it and just outside it. That what
 * is refused changes nothing is held by RefusalTest.
 */
public final class BoundsOfMarketTest {
    private static final Check CHECK = new Check("BoundsOfMarketTest");
    private static final String FIGURES = "0123456789";
    private static final String FROM_ONE = "123456789";

    public static void main(String[] args) {
        newObject();
        writeOneToEight();
        writeUpTo72();
        wipe();
        everyByteAtEveryPlace();
        faultWhateverComesBehind();
        faultItsLengthSetAside();
        faultAtTheEnd();
        teethAndGoodsAtMost();
        marketOfALoneLaw();
        marketForgetsBargainsAlone();
        marketLeavesNoTeeth();
        worthAtLeastZero();
        wearAtMost99();
        sizeOneIsNotBitten();
        numbersOfWhatIsAsked();
        peopleOfPurses();
        CHECK.end();
    }

    /** "At first it is L11, there are no TEETH, no GOODS." */
    private static void newObject() {
        TeethForCoins x = new TeethForCoins();
        CHECK.due("1 LOSS", x.about(2), 1);
        CHECK.due("1 RATE", x.about(3), 1);
        for (int what : new int[] {0, 1, 4, 5, 6}) {
            CHECK.due("1 none of " + what, x.about(what), 0);
        }
        CHECK.due("1 no TOOTH", x.handle(0), -1);
        CHECK.due("1 no GOOD", x.good(0, 0), -1);
        CHECK.due("1 no BARGAIN", x.undo(), -3);
        CHECK.due("1 no TEXT", x.fault(), 0);
        CHECK.due("1 no TEXT", x.market(), -3);
        CHECK.due("1 none is STOLEN", x.stolen(), 0);
        CHECK.due("1 none is STOLEN", x.thief(), -9);
        for (int money = 0; money < 4; money++) {
            for (int other = 0; other < 4; other++) {
                CHECK.due("1 1 for 1", x.rate(money, other, 1, 1), money == other ? -2 : 101);
            }
        }
        CHECK.due("1 SLOT 0", x.again(0), -3);
        CHECK.due("1 SLOT 1", x.again(1), -3);
    }

    /** "n bytes (1 .. 8) of v, the lowest n, the highest of these first" */
    private static void writeOneToEight() {
        String text = "L37T4R15";
        for (int n = 1; n <= 8; n++) {
            TeethForCoins x = new TeethForCoins();
            long v = 0;
            for (int i = 0; i < n; i++) {
                v = v << 8 | text.charAt(i);
            }
            // What stands above the lowest n is no part of them.
            CHECK.due("2 " + n + " bytes", x.write(n, n == 8 ? v : v | 0x7EL << 8 * n | 1L << 63), n);
            CHECK.due("2 " + n + " bytes", x.about(5), n);
            Check.tell(x, n == 8 ? "" : "L37T4R13".substring(n));
            CHECK.due("2 " + n + " bytes are as told", x.fault(), n == 8 ? 7 : -9);
        }
        TeethForCoins x = new TeethForCoins();
        for (int n : new int[] {0, -1, 9, 10, 256, 257, Integer.MIN_VALUE, Integer.MAX_VALUE}) {
            CHECK.due("2 BAD: " + n, x.write(n, 0x4C3131L), -2);
        }
        CHECK.due("2 nothing came", x.about(5), 0);
    }

    /** "THE TEXT is bytes (72 at most)"; "FULL: it would be longer than 72 (nothing comes)" */
    private static void writeUpTo72() {
        for (int length = 60; length <= 72; length++) {
            for (int n = 1; n <= 8; n++) {
                TeethForCoins x = new TeethForCoins();
                Check.tell(x, "L".repeat(length));
                boolean in = length + n <= 72;
                CHECK.due("2 " + length + " and " + n, x.write(n, -1L), in ? length + n : -4);
                CHECK.due("2 " + length + " and " + n, x.about(5), in ? length + n : length);
            }
            TeethForCoins x = new TeethForCoins();
            Check.tell(x, "L".repeat(length));
            CHECK.due("2 BAD ahead of FULL", x.write(9, 0L), -2);
            CHECK.due("2 BAD ahead of FULL", x.write(0, 0L), -2);
        }
    }

    /** "THE TEXT is empty: how long it was." */
    private static void wipe() {
        TeethForCoins x = new TeethForCoins();
        CHECK.due("3 empty", x.wipe(), 0);
        Check.tell(x, "L");
        CHECK.due("3 one byte", x.wipe(), 1);
        Check.tell(x, "L".repeat(72));
        CHECK.due("3 72 bytes", x.wipe(), 72);
        CHECK.due("3 empty", x.about(5), 0);
        Check.tell(x, "L".repeat(71));
        CHECK.due("3 what was is gone", x.write(1, 'L'), 72);
    }

    private static int faultOf(String text) {
        TeethForCoins x = new TeethForCoins();
        Check.tell(x, text);
        return x.fault();
    }

    /** After this start the next byte is one of these, and no other of all 256. */
    private static void next(String start, String allowed) {
        for (int sign = 0; sign < 256; sign++) {
            int fault = faultOf(start + (char) sign);
            boolean in = allowed.indexOf(sign) >= 0;
            CHECK.holds("4 " + start + " and byte " + sign + ": " + fault, in == (fault != start.length()));
        }
    }

    /** "LOSS l (0 .. 9) and RATE r (1 .. 9)" and so on. */
    private static void everyByteAtEveryPlace() {
        next("", "L");
        next("L", FIGURES);
        next("L0", FROM_ONE);
        next("L9", FROM_ONE);
        for (String start : new String[] {"L11", "L09", "L11T1L00", "L11B9R93", "L11G019", "L11G990"}) {
            next(start, "TBG");
            next(start + "T", FROM_ONE);
            next(start + "B", FROM_ONE);
            next(start + "T1", "LR");
            next(start + "B9", "LR");
            next(start + "T1L", FIGURES);
            next(start + "B9R", FIGURES);
            next(start + "T1L0", "0123");
            next(start + "B9R9", "0123");
            next(start + "G", FIGURES);
            next(start + "G0", FROM_ONE);
            for (char figure : FROM_ONE.toCharArray()) {
                next(start + "G" + figure, FIGURES);
            }
            next(start + "G01", FIGURES);
            next(start + "G10", FIGURES);
            next(start + "G99", FIGURES);
        }
        next("L11" + "T1L00".repeat(9), "TBG");
        next("L11" + "B1L00".repeat(10), "G");
        next("L11" + "G011".repeat(3), "TBG");
        next("L11" + "G011".repeat(4), "TB");
        next("L11" + "T1L00".repeat(10) + "G011".repeat(3), "G");
        next("L11" + "T1L00".repeat(9) + "G011".repeat(4), "TB");
        next("L11" + "T1L00".repeat(10) + "G011".repeat(4), "");
    }

    /** "the place of the first byte by which THE TEXT can be no MARKET, whatever came behind it" */
    private static void faultWhateverComesBehind() {
        String[] faulty = {"X", "LX", "L00", "L11L", "L11T0", "L11T1X", "L11T1LX", "L11T1L04", "L11GX", "L11G00",
            "L11G01X", "L11" + "T1L00".repeat(10) + "B", "L11" + "G111".repeat(4) + "G"};
        String[] behind = {"", "L11", "T1L00", "G111", "1", "X", "\u0000", "\u00ff", "L0T0G00"};
        for (String start : faulty) {
            for (String more : behind) {
                CHECK.due("4 " + start + " and behind it " + more, faultOf(start + more), start.length() - 1);
                TeethForCoins x = new TeethForCoins();
                Check.tell(x, start + more);
                CHECK.due("5 LATE: " + start + more, x.market(), -3);
            }
        }
    }

    /** "(its length set aside)": the longest MARKET has 69 bytes, so that what makes it longer is the FAULT. */
    private static void faultItsLengthSetAside() {
        String longest = "L11" + "T1L00".repeat(10) + "G111".repeat(4);
        CHECK.due("4 69 bytes", faultOf(longest), -9);
        for (int more = 1; more <= 3; more++) {
            CHECK.due("4 69 bytes and " + more, faultOf(longest + "TG1".substring(0, more)), 69);
        }
        // No room is left for the rest of the PART, but that is not asked.
        CHECK.due("4 72 bytes", faultOf("L".repeat(72)), 1);
        CHECK.due("4 the last of 72 bytes", faultOf(longest + "G01"), 69);
    }

    /** "its length, if it is only not at its end; NONE: none" */
    private static void faultAtTheEnd() {
        String text = "L34T5L21G123B9R03G991T1L00G010B2R92";
        int[] ends = {3, 8, 12, 17, 21, 26, 30, 35};
        for (int length = 0; length <= text.length(); length++) {
            int due = length;
            for (int end : ends) {
                due = end == length ? -9 : due;
            }
            CHECK.due("4 the first " + length, faultOf(text.substring(0, length)), due);
            TeethForCoins x = new TeethForCoins();
            Check.tell(x, text.substring(0, length));
            CHECK.due("5 the first " + length, x.market() >= 0 ? -9 : x.about(5), due);
        }
    }

    /** "TEETH are 0, 1, .. (10 at most)"; "a GOOD (4 at most)"; "numbered as they are told" */
    private static void teethAndGoodsAtMost() {
        StringBuilder text = new StringBuilder("L11");
        for (int tooth = 0; tooth < 10; tooth++) {
            text.append(tooth % 2 == 0 ? 'T' : 'B').append(tooth % 9 + 1).append("LR".charAt(tooth / 5));
            text.append(9 - tooth).append(tooth % 4);
            if (tooth % 3 == 0) {
                text.append('G').append(9 - tooth).append(tooth).append(tooth);
            }
        }
        TeethForCoins x = new TeethForCoins();
        Check.tell(x, text.toString());
        CHECK.due("5 ten", x.market(), 10);
        CHECK.due("6 ten", x.about(0), 10);
        CHECK.due("6 four", x.about(1), 4);
        CHECK.due("6 five", x.about(6), 5);
        for (int tooth = 0; tooth < 10; tooth++) {
            int[] due = {tooth % 9 + 1, tooth < 5 ? 1 : 0, 9 - tooth, tooth % 4,
                Math.max(0, 10 * (tooth % 9 + 1) - 9 + tooth), tooth % 2};
            for (int what = 0; what < 6; what++) {
                CHECK.due("7 the tooth " + tooth + ", " + what, x.tooth(tooth, what), due[what]);
            }
        }
        for (int good = 0; good < 4; good++) {
            CHECK.due("8 price of " + good, x.good(good, 0), 10 * (9 - 3 * good) + 3 * good);
            CHECK.due("8 use of " + good, x.good(good, 1), 3 * good);
        }
        CHECK.due("7 an eleventh", x.tooth(10, 0), -1);
        CHECK.due("8 a fifth", x.good(4, 0), -1);
        CHECK.due("4 an eleventh", faultOf(text + "T1L00"), text.length());
        CHECK.due("4 a fifth", faultOf(text + "G"), text.length());
    }

    /** A MARKET may have no TEETH and no GOODS; what was in the one before is gone. */
    private static void marketOfALoneLaw() {
        for (String law : new String[] {"L01", "L09", "L91", "L99"}) {
            TeethForCoins x = Check.market("L55T5L00G101");
            x.wipe();
            Check.tell(x, law);
            CHECK.due("5 " + law, x.market(), 0);
            CHECK.due("6 LOSS of " + law, x.about(2), law.charAt(1) - '0');
            CHECK.due("6 RATE of " + law, x.about(3), law.charAt(2) - '0');
            CHECK.due("7 no TOOTH", x.tooth(0, 0), -1);
            CHECK.due("8 no GOOD", x.good(0, 0), -1);
        }
        TeethForCoins x = Check.market("L55G019T5L00");
        x.wipe();
        CHECK.due("5 LATE: empty", x.market(), -3);
        CHECK.due("5 LATE: THE MARKET is as it was", x.about(0), 1);
        CHECK.due("5 one", Check.market("L55T5L00").about(0), 1);
    }

    /** "THE TEXT is THE MARKET (no BARGAINS were made; RATES of MONIES and what was kept stay)" */
    private static void marketForgetsBargainsAlone() {
        TeethForCoins x = Check.market("L01T5L00");
        for (int i = 0; i < 8; i++) {
            x.pay(1, 2, 0);
        }
        x.rate(3, 2, 99, 98);
        x.keep(0);
        x.caught(3, 1L);
        CHECK.due("5 as told", x.market(), 1);
        CHECK.due("5 no BARGAINS", x.about(4), 0);
        CHECK.due("5 room for BARGAINS", x.pay(1, 2, 0), 0);
        CHECK.due("5 one BARGAIN", x.about(4), 1);
        CHECK.due("5 RATES stay", x.rate(3, 2, 1, 1), 9998);
        CHECK.due("5 SLOT 1 is as it was", x.again(1), -3);
        CHECK.due("5 SLOT 0 is as it was", x.again(0), 1);
        CHECK.due("5 its BARGAINS too", x.about(4), 8);
        CHECK.due("5 THE TEXT stays", x.wipe(), 8);
    }

    /** FAKES, WEAR and TRACES of TEETH that are no more do not count, nor come with those that come in their stead. */
    private static void marketLeavesNoTeeth() {
        TeethForCoins x = Check.market("L01B5L90T5L90B6L91B7L93");
        for (int tooth = 0; tooth < 4; tooth++) {
            x.should(tooth, 0);
        }
        x.pay(3, 2, 70);
        CHECK.due("6 three FAKES, the first and the last too", x.about(6), 3);
        CHECK.due("30 all", x.stolen(), 15);
        x.wipe();
        Check.tell(x, "L01B5L00T5L00");
        x.market();
        CHECK.due("6 one FAKE", x.about(6), 1);
        CHECK.due("30 none", x.stolen(), 0);
        CHECK.due("31 none", x.thief(), -9);
        CHECK.due("9 two", x.purse(0), 100);
        CHECK.due("9 none", x.purse(1), 0);
        CHECK.due("16 none", x.tooMuch(2, 1, true), -9);
        x.washed(2, 1L);
        for (int tooth = 2; tooth < 4; tooth++) {
            CHECK.due("20 without WEAR", x.tooth(tooth, 2), 0);
            CHECK.due("20 no FAKE", x.tooth(tooth, 5), 0);
            CHECK.due("20 no older TRACE", x.trace(tooth, 1), -9);
            CHECK.due("20 no older WEAR that should be", x.should(tooth, 0), 0);
        }
        CHECK.due("6 one FAKE", x.about(6), 1);
        CHECK.due("30 none", x.stolen(), 0);
        CHECK.due("6 the first alone", Check.market("L11B5L00T5L00").about(6), 1);
        CHECK.due("6 the last alone", Check.market("L11T5L00B5L00").about(6), 1);
        CHECK.due("6 all ten", Check.market("L11" + "B5L00".repeat(10)).about(6), 10);
    }

    /** "10 times its size, less LOSS times its WEAR (0 at least); of a left one RATE times as much." */
    private static void worthAtLeastZero() {
        int[][] sizeWearLossRateWorth = {{1, 9, 1, 9, 1}, {1, 5, 2, 9, 0}, {1, 4, 2, 9, 2}, {1, 6, 2, 9, 0},
            {1, 9, 9, 9, 0}, {9, 0, 9, 9, 90}, {9, 9, 9, 1, 9}, {8, 9, 9, 5, 0}, {8, 8, 9, 5, 8}, {1, 9, 0, 3, 10}};
        for (int[] of : sizeWearLossRateWorth) {
            TeethForCoins x = Check.market("L" + of[2] + of[3] + "T" + of[0] + "R" + of[1] + "0"
                + "B" + of[0] + "L" + of[1] + "1" + "T" + of[0] + "L" + of[1] + "2");
            CHECK.due("7 a right one", x.tooth(0, 4), of[4]);
            CHECK.due("7 a left FAKE", x.tooth(1, 4), of[4] * of[3]);
            CHECK.due("7 a left one", x.tooth(2, 4), of[4] * of[3]);
            CHECK.due("9 a right one", x.purse(0), of[4]);
            CHECK.due("9 a left FAKE", x.purse(1), of[4] * of[3]);
        }
        TeethForCoins x = Check.market("L93T1L00");
        CHECK.due("10 a little is left", x.handle(0), 3);
        CHECK.due("10 nothing is left", x.handle(0), 0);
        CHECK.due("10 nothing is left", x.handle(0), 0);
    }

    /** "HANDLED, it has 1 more WEAR (99 at most)." */
    private static void wearAtMost99() {
        TeethForCoins x = Check.market("L01T5R00T5R90T5R02");
        for (int wear = 1; wear <= 98; wear++) {
            CHECK.due("10 WORTH", x.handle(0), 50);
            CHECK.due("10 WEAR", x.tooth(0, 2), wear);
        }
        x.handle(0);
        CHECK.due("10 99", x.tooth(0, 2), 99);
        CHECK.due("10 WORTH at 99", x.handle(0), 50);
        CHECK.due("10 99 still", x.tooth(0, 2), 99);
        CHECK.due("14 paid with 99", x.pay(0, 2, 50), 1);
        CHECK.due("14 the least set is paid", x.tooth(0, 3), 2);
        CHECK.due("14 99 still", x.tooth(0, 2), 99);
        CHECK.due("10 of others nothing", x.tooth(1, 2), 9);
        CHECK.due("30 it has as much as it may", x.should(0, 99), 0);
        CHECK.due("30 99 of 99", x.stolen(), 0);
        CHECK.due("29 99 at most", x.should(0, 98), 99);
        CHECK.due("30 99 of 98", x.stolen(), 1);
        CHECK.due("11 its WEAR is 0", x.bite(0), 40);
        CHECK.due("11 its WEAR is 0", x.tooth(0, 2), 0);
    }

    /** "BITTEN, it is 1 smaller (a TOOTH of size 1 can not be), and its WEAR is 0." */
    private static void sizeOneIsNotBitten() {
        for (String tooth : new String[] {"T9L90", "B9R03", "T2R31", "B2L02"}) {
            TeethForCoins x = Check.market("L12T1R90" + tooth);
            int size = tooth.charAt(1) - '0';
            int rate = tooth.charAt(2) == 'L' ? 2 : 1;
            for (int smaller = size - 1; smaller >= 1; smaller--) {
                CHECK.due("11 WORTH of " + smaller, x.bite(1), 10 * smaller * rate);
                CHECK.due("11 size " + smaller, x.tooth(1, 0), smaller);
                CHECK.due("11 WEAR", x.tooth(1, 2), 0);
                x.handle(1);
            }
            CHECK.due("11 LATE", x.bite(1), -3);
            CHECK.due("11 LATE: size", x.tooth(1, 0), 1);
            CHECK.due("11 LATE: WEAR", x.tooth(1, 2), 1);
            CHECK.due("11 LATE from the first", x.bite(0), -3);
            CHECK.due("11 LATE: WEAR", x.tooth(0, 2), 9);
        }
    }

    /** "what = 0 .. 6", "0 .. 5", "0 .. 1", and the numbers of TEETH and GOODS. */
    private static void numbersOfWhatIsAsked() {
        TeethForCoins x = Check.market("L34T5L21G123");
        CHECK.due("6 the first", x.about(0), 1);
        CHECK.due("6 the last", x.about(6), 0);
        CHECK.due("6 ahead of the first", x.about(-1), -2);
        CHECK.due("6 behind the last", x.about(7), -2);
        CHECK.due("7 the first", x.tooth(0, 0), 5);
        CHECK.due("7 the last", x.tooth(0, 5), 0);
        CHECK.due("7 ahead of the first", x.tooth(0, -1), -2);
        CHECK.due("7 behind the last", x.tooth(0, 6), -2);
        CHECK.due("8 the first", x.good(0, 0), 12);
        CHECK.due("8 the last", x.good(0, 1), 3);
        CHECK.due("8 ahead of the first", x.good(0, -1), -2);
        CHECK.due("8 behind the last", x.good(0, 2), -2);
        for (int no : new int[] {-1, 1}) {
            CHECK.due("7 no TOOTH " + no, x.tooth(no, 0), -1);
            CHECK.due("7 UNKNOWN ahead of BAD", x.tooth(no, 6), -1);
            CHECK.due("8 no GOOD " + no, x.good(no, 0), -1);
            CHECK.due("8 UNKNOWN ahead of BAD", x.good(no, 2), -1);
            CHECK.due("10 no TOOTH " + no, x.handle(no), -1);
            CHECK.due("11 no TOOTH " + no, x.bite(no), -1);
        }
        x.caught(0, 1L);
        CHECK.due("7 now there is one", x.tooth(1, 2), 0);
        CHECK.due("10 now there is one", x.handle(1), x.tooth(1, 4));
        CHECK.due("7 but no third", x.tooth(2, 2), -1);
    }

    /** "PEOPLE are 0 .. 3" */
    private static void peopleOfPurses() {
        TeethForCoins x = Check.market("L11T1R00T2R01T3R02T4R03");
        for (int person = 0; person < 4; person++) {
            CHECK.due("9 the purse " + person, x.purse(person), 10 * (person + 1));
        }
        CHECK.due("9 ahead of the first", x.purse(-1), -1);
        CHECK.due("9 behind the last", x.purse(4), -1);
        CHECK.due("9 ten", Check.market("L99" + "T9L03".repeat(10)).purse(3), 8100);
        CHECK.due("9 none", Check.market("L99" + "T9L03".repeat(10)).purse(2), 0);
    }
}
