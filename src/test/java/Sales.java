/** Sales that stand at some point already. */
final class Sales {
    static final int[] FAR_OFF = {-1, Integer.MIN_VALUE, Integer.MAX_VALUE};

    /**
     * Two regions of two blocks (of 1 point, for 10 each), two bidders (90000, 9 points), and a station; from stage 1 on
     * the first bidder wishes a block of the first region, which is what it wins in the end.
     */
    static Wavesale inStage(int stage) {
        Wavesale w = prepared(2, 2, 2);
        w.station(0, 50);
        if (stage > 0) {
            w.open();
            w.wish(0, 0, 1);
        }
        if (stage > 1) {
            w.close(1);
        }
        if (stage > 2) {
            w.settle(0);
        }
        return w;
    }

    /** Each block is of 1 point, for 10; each bidder has 90000, and 9 points. */
    static Wavesale prepared(int regions, int supply, int bidders) {
        Wavesale w = new Wavesale();
        for (int k = 0; k < regions; k++) {
            w.region(supply, 1, 10);
        }
        for (int k = 0; k < bidders; k++) {
            w.bidder(90000, 9, 0, 0);
        }
        return w;
    }

    static Wavesale opened(int regions, int supply, int bidders) {
        Wavesale w = prepared(regions, supply, bidders);
        w.open();
        return w;
    }

    /** Packages are told: nobody wished anything. */
    static Wavesale told(int regions, int supply, int bidders) {
        Wavesale w = opened(regions, supply, bidders);
        w.close(1);
        return w;
    }
}
