import java.lang.management.ManagementFactory;

/** All calls of one run live in one room: no call makes an object, and a new object is small. */
public final class RoomTest {
    private static final Check CHECK = new Check("RoomTest");
    private static final int CALLS = 512;

    public static void main(String[] args) {
        if (!(ManagementFactory.getThreadMXBean() instanceof com.sun.management.ThreadMXBean beans)) {
            CHECK.holds("this machine does not count what a thread makes", true);
            CHECK.end();
            return;
        }
        TeethForCoins x = Check.market("L11T5L00G101G202G303G404");
        x.washed(9, 5L);
        allCalls(x);
        long before = beans.getCurrentThreadAllocatedBytes();
        for (int i = 0; i < CALLS; i++) {
            allCalls(x);
        }
        long made = beans.getCurrentThreadAllocatedBytes() - before;
        // Reading the count itself makes a little.
        CHECK.holds("calls made " + made + " bytes", made < 4096);
        before = beans.getCurrentThreadAllocatedBytes();
        TeethForCoins y = new TeethForCoins();
        made = beans.getCurrentThreadAllocatedBytes() - before;
        CHECK.holds("a new object made " + made + " bytes", made < 40000 && y.undo() == -3);
        CHECK.end();
    }

    private static void allCalls(TeethForCoins x) {
        long sum = x.write(1, 'L') + x.wipe() + x.fault() + x.market() + x.about(0) + x.tooth(0, 4) + x.good(0, 0);
        sum += x.purse(0) + x.handle(0) + x.bite(1) + x.fewest(0, 1, 20) + x.paid(0, 1, 20, true) + x.pay(0, 1, 0);
        sum += x.tooMuch(0, 30, true) + x.sums(0, 1, 999) + x.spent(0, true) + x.caught(0, 1L) + x.washed(1, 1L);
        sum += x.life(0, 1) + x.trace(0, 0) + x.inflated(0, 100) + x.doubt(5, 5, 5, 6, 3, true);
        sum += x.among(10, 5, 5, true) + x.rate(0, 1, 2, 3) + x.ring(true) + x.ringAt(0) + x.should(0, 1);
        sum += x.stolen() + x.thief() + x.keep(0) + x.again(0) + x.undo();
        if (sum == Long.MIN_VALUE) {
            System.out.println(sum);
        }
    }
}
