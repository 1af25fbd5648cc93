import java.lang.management.ManagementFactory;

/** What the dearest runs of 512 calls make: all that a run makes has to live in one small room. */
public final class RoomTest {
    private static final Check CHECK = new Check("RoomTest");
    private static final int CALLS = 512;
    /** Far below the room of 7.3 million fields and elements, each of 4 bytes or more. */
    private static final long MOST_BYTES = 2_000_000;

    private interface Run {
        void go();
    }

    public static void main(String[] args) {
        makesLittle("nothing", () -> { });
        makesLittle("a long log", RoomTest::longLog);
        makesLittle("many packages", RoomTest::manyPackages);
        makesLittle("charts", RoomTest::charts);
        makesLittle("what is refused", RoomTest::refusals);
        CHECK.end();
    }

    private static void makesLittle(String name, Run run) {
        run.go();
        long before = bytes();
        run.go();
        long made = bytes() - before;
        CHECK.isTrue(name + " makes " + made + " bytes", made < MOST_BYTES);
    }

    private static long bytes() {
        com.sun.management.ThreadMXBean bean =
                (com.sun.management.ThreadMXBean) ManagementFactory.getThreadMXBean();
        return bean.getThreadAllocatedBytes(Thread.currentThread().getId());
    }

    private static Wavesale sale() {
        Wavesale w = new Wavesale();
        for (int k = 0; k < 5; k++) {
            w.region(5, 1, 1);
        }
        for (int k = 0; k < 6; k++) {
            w.bidder(99999, 200, 0, 0);
        }
        for (int k = 0; k < 10; k++) {
            w.station(k % 5, 100 + k);
        }
        w.open();
        return w;
    }

    private static void longLog() {
        Wavesale w = sale();
        for (int bidder = 0; bidder < 6; bidder++) {
            for (int region = 0; region < 5; region++) {
                w.wish(bidder, region, 5 - (bidder + region) % 2);
            }
        }
        for (int k = 0; k < 7; k++) {
            w.close(9);
        }
        CHECK.same("rounds", w.sale(15), 60);
        for (int k = 70; k < CALLS; k++) {
            if (k % 2 == 0) {
                w.digest();
            } else {
                w.anew(1 + k % 60, k % 6, k % 5, k % 6);
            }
        }
    }

    private static void manyPackages() {
        Wavesale w = sale();
        w.close(1);
        int[] codes = {1, 6, 36, 216, 1296, 7};
        for (int nth = 0; nth < 6; nth++) {
            for (int bidder = 0; bidder < 6; bidder++) {
                w.offer(bidder, codes[nth], 1000 + nth * 37 % 11 + bidder * 13 % 7);
                w.digest();
            }
        }
        w.settle(2);
        for (int k = 100; k < CALLS; k++) {
            w.digest();
        }
    }

    private static void charts() {
        Wavesale w = sale();
        for (int k = 30; k < CALLS; k++) {
            w.chart(k % 5);
        }
    }

    private static void refusals() {
        Wavesale w = sale();
        for (int k = 30; k < CALLS; k++) {
            try {
                w.settle(k % 4);
            } catch (IllegalStateException | IllegalArgumentException e) {
                w.knock();
            }
        }
    }
}
