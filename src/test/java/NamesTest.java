/** Promises 27 and 28: blocks and their holders. */
public final class NamesTest {
    private static final Check CHECK = new Check("NamesTest");

    public static void main(String[] args) {
        promise27Holder();
        promise28Chart();
        turnsAvoidClashes();
        allBlocksOfAllRegions();
        onlyNeighboursClash();
        turnsGoRoundSix();
        namesAfterADefault();
        CHECK.end();
    }

    private static Wavesale told(int bidders, int borders, int... supplies) {
        Wavesale w = new Wavesale();
        for (int supply : supplies) {
            w.region(supply, 1, 1);
        }
        for (int k = 0; k < borders; k++) {
            w.border(k, k + 1);
        }
        for (int k = 0; k < bidders; k++) {
            w.bidder(999, 200, 0, 0);
        }
        w.open();
        w.close(1);
        return w;
    }

    private static void promise27Holder() {
        Wavesale w = told(3, 0, 4, 1);
        w.offer(2, 1, 20);
        w.offer(0, 2, 20);
        CHECK.same("ahead of the settling", w.holder(0, 0), -1);
        CHECK.same("clashes ahead of the settling", w.sale(13), 0);
        w.settle(0);
        CHECK.same("first block", w.holder(0, 0), 0);
        CHECK.same("second block", w.holder(0, 1), 0);
        CHECK.same("third block", w.holder(0, 2), 2);
        CHECK.same("block that is left over", w.holder(0, 3), -1);
        CHECK.same("nobody has any there", w.holder(1, 0), -1);
        CHECK.noPlace("no region", () -> w.holder(2, 0));
        CHECK.noPlace("region -1", () -> w.holder(-1, 0));
        CHECK.noPlace("no block", () -> w.holder(0, 4));
        CHECK.noPlace("no block of a small region", () -> w.holder(1, 1));
        CHECK.noPlace("block -1", () -> w.holder(0, -1));
        Wavesale early = new Wavesale();
        early.region(2, 1, 1);
        CHECK.same("at first", early.holder(0, 1), -1);
        CHECK.noPlace("no block at first", () -> early.holder(0, 2));
    }

    private static void promise28Chart() {
        Wavesale w = told(4, 0, 4, 1, 5);
        CHECK.same("ahead of the settling", w.chart(0), "-,-,-,-");
        CHECK.same("one block", w.chart(1), "-");
        w.offer(0, 2, 20);
        w.offer(3, 1 + 6, 20);
        w.settle(1);
        CHECK.same("chart", w.chart(0), "0,0,3,-");
        CHECK.same("chart of one block", w.chart(1), "3");
        CHECK.same("chart of nobody", w.chart(2), "-,-,-,-,-");
        CHECK.noPlace("no region", () -> w.chart(3));
        CHECK.noPlace("region -1", () -> w.chart(-1));
    }

    private static void turnsAvoidClashes() {
        Wavesale w = told(3, 1, 2, 2);
        w.offer(2, 1 + 6, 50);
        w.offer(0, 6, 50);
        w.settle(0);
        CHECK.same("the first region by turn 0", w.chart(0), "2,-");
        CHECK.same("its neighbour by another turn", w.chart(1), "2,0");
        CHECK.same("no clash", w.sale(13), 0);
        Wavesale v = told(2, 1, 3, 3);
        v.offer(0, 2 + 6, 50);
        v.offer(1, 1 + 12, 50);
        v.settle(0);
        CHECK.same("the first region", v.chart(0), "0,0,1");
        CHECK.same("turn 0 has the fewest", v.chart(1), "0,1,1");
        CHECK.same("one clash", v.sale(13), 1);
        Wavesale u = told(3, 2, 1, 2, 1);
        u.offer(0, 1, 50);
        u.offer(1, 6, 50);
        u.offer(2, 6 + 36, 50);
        u.settle(0);
        CHECK.same("a clash in any case: turn 0", u.chart(1), "1,2");
        CHECK.same("the third has a clash with the second", u.chart(2), "2");
        CHECK.same("clashes of all", u.sale(13), 2);
    }

    private static void allBlocksOfAllRegions() {
        Wavesale w = told(6, 4, 5, 5, 5, 5, 5);
        CHECK.same("the last region ahead of the settling", w.chart(4), "-,-,-,-,-");
        for (int bidder = 0; bidder < 5; bidder++) {
            for (int nth = 0; nth < 5; nth++) {
                w.offer(bidder, 1, 10);
            }
            w.offer(bidder, 1 + 6 + 36 + 216 + 1296, 50 + bidder);
        }
        w.settle(0);
        for (int region = 0; region < 5; region++) {
            CHECK.same("chart of " + region, w.chart(region), "0,1,2,3,4");
        }
        CHECK.same("the sixth package wins", w.wins(4), 5);
        CHECK.same("no clash", w.sale(13), 0);
        CHECK.isTrue("sound with all blocks", w.isSound());
        Wavesale v = told(6, 1, 5, 5);
        v.offer(0, 1 + 6, 50);
        v.offer(5, 4, 50);
        v.offer(4, 24, 50);
        v.settle(0);
        CHECK.same("five blocks", v.chart(0), "0,5,5,5,5");
        CHECK.same("five others", v.chart(1), "0,4,4,4,4");
        CHECK.same("clashes up to the last block", v.sale(13), 4);
    }

    private static void onlyNeighboursClash() {
        Wavesale w = told(3, 0, 2, 2);
        w.offer(2, 1 + 6, 50);
        w.offer(0, 6, 50);
        w.settle(0);
        CHECK.same("no neighbour", w.chart(1), "0,2");
        CHECK.same("no clash", w.sale(13), 0);
        Wavesale v = told(2, 2, 1, 5, 1);
        v.offer(0, 1, 50);
        v.offer(1, 36, 50);
        v.settle(0);
        CHECK.same("neighbours of a neighbour", v.sale(13), 0);
        CHECK.same("nobody between them", v.chart(1), "-,-,-,-,-");
    }

    /** Only turn 5 and turn 0 differ in where the last bidder comes. */
    private static void turnsGoRoundSix() {
        Wavesale w = told(6, 1, 3, 3);
        w.offer(5, 1 + 6, 50);
        w.offer(0, 1 + 6, 50);
        w.offer(1, 1 + 6, 50);
        w.settle(0);
        CHECK.same("turn 0", w.chart(0), "0,1,5");
        CHECK.same("the same turn", w.chart(1), "0,1,5");
        Wavesale v = told(6, 2, 1, 3, 1);
        v.offer(5, 1 + 6, 50);
        v.offer(0, 6, 50);
        v.offer(4, 6, 50);
        v.settle(0);
        CHECK.same("the fifth first, and then round", v.chart(1), "5,0,4");
        Wavesale u = told(6, 2, 2, 3, 1);
        u.offer(4, 1 + 6, 50);
        u.offer(5, 1 + 6, 50);
        u.offer(0, 6, 50);
        u.settle(0);
        CHECK.same("from 1 on, the smallest such turn", u.chart(1), "4,5,0");
    }

    private static void namesAfterADefault() {
        Wavesale w = told(3, 1, 2, 2);
        w.offer(0, 1 + 6, 50);
        w.offer(1, 1, 50);
        w.offer(2, 6, 50);
        w.settle(0);
        CHECK.same("first region", w.chart(0), "0,1");
        CHECK.same("second region", w.chart(1), "0,2");
        CHECK.same("clashes", w.sale(13), 1);
        w.fail(0);
        CHECK.same("first region anew", w.chart(0), "1,-");
        CHECK.same("second region anew", w.chart(1), "2,-");
        CHECK.same("clashes anew", w.sale(13), 1);
        w.fail(1);
        CHECK.same("clashes with nobody", w.sale(13), 0);
        CHECK.isTrue("sound", w.isSound());
    }
}
