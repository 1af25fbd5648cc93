/** Promises 27 and 28 and part 4, sentence by sentence. */
public final class NamesBoundsTest {
    private static final Check CHECK = new Check("NamesBoundsTest");
    private static final int A = 1;
    private static final int B = 6;

    public static void main(String[] args) {
        holderPlaces();
        holderBlocks();
        holderStages();
        chartPlaces();
        chartStages();
        chartOfEachSupply();
        chartOfAllBlocks();
        blocksLeftOver();
        blocksOneBehindTheOther();
        turnOfEachKind();
        turnWithTheFewest();
        turnOfSeveralTheSmallest();
        neighboursWithSmallerNumber();
        neighboursOnly();
        clashOfBlocksInBoth();
        clashOfHoldersInBoth();
        clashOfDifferentHolders();
        clashesOfAll();
        clashesStages();
        namesAnew();
        CHECK.end();
    }

    private static Wavesale told(int bidders, int[] supplies, int... borders) {
        Wavesale w = new Wavesale();
        for (int supply : supplies) {
            w.region(supply, 1, 1);
        }
        for (int k = 0; k < borders.length; k += 2) {
            w.border(borders[k], borders[k + 1]);
        }
        for (int k = 0; k < bidders; k++) {
            w.bidder(999, 9, 0, 0);
        }
        w.open();
        w.close(1);
        return w;
    }

    private static void holderPlaces() {
        CHECK.promise(27, "Throws `IndexOutOfBoundsException` if there is no such REGION, or BLOCK");
        Wavesale none = new Wavesale();
        CHECK.noPlace("of nothing", none, () -> none.holder(0, 0));
        for (int stage = 0; stage <= 3; stage++) {
            Wavesale w = Sales.inStage(stage);
            for (int far : new int[] {2, -1, Integer.MIN_VALUE, Integer.MAX_VALUE}) {
                CHECK.noPlace("region " + far + " in stage " + stage, w, () -> w.holder(far, 0));
                CHECK.noPlace("block " + far + " in stage " + stage, w, () -> w.holder(0, far));
            }
        }
        Wavesale full = Sales.prepared(5, 5, 0);
        CHECK.same("the last block of the last region", full.holder(4, 4), -1);
        CHECK.noPlace("the sixth block", full, () -> full.holder(4, 5));
        CHECK.noPlace("the sixth region", full, () -> full.holder(5, 4));
    }

    private static void holderBlocks() {
        CHECK.part(4, "In STAGE 3 BLOCKS of a REGION are numbered from 0 to SUPPLY - 1.");
        for (int k = 1; k <= 5; k++) {
            int supply = k;
            Wavesale w = told(1, new int[] {supply, 5});
            w.offer(0, supply, 50);
            w.settle(0);
            CHECK.same("the first of " + supply, w.holder(0, 0), 0);
            CHECK.same("the last of " + supply, w.holder(0, supply - 1), 0);
            CHECK.noPlace("one more than " + supply, w, () -> w.holder(0, supply));
            CHECK.noPlace("-1 of " + supply, w, () -> w.holder(0, -1));
        }
    }

    private static void holderStages() {
        CHECK.promise(27, "Returns the BIDDER that holds it by its NAME (NONE, also ahead of STAGE 3).");
        int[] due = {-1, -1, -1, 0};
        for (int stage = 0; stage <= 3; stage++) {
            Wavesale w = Sales.inStage(stage);
            CHECK.same("in stage " + stage, w.holder(0, 0), due[stage]);
            CHECK.same("nobody's in stage " + stage, w.holder(0, 1), -1);
            CHECK.same("of a region of nobody, in stage " + stage, w.holder(1, 1), -1);
        }
    }

    private static void chartPlaces() {
        CHECK.promise(28, "Throws `IndexOutOfBoundsException` if there is no such REGION");
        Wavesale none = new Wavesale();
        CHECK.noPlace("of nothing", none, () -> none.chart(0));
        for (int stage = 0; stage <= 3; stage++) {
            Wavesale w = Sales.inStage(stage);
            for (int far : new int[] {2, -1, Integer.MIN_VALUE, Integer.MAX_VALUE}) {
                CHECK.noPlace("region " + far + " in stage " + stage, w, () -> w.chart(far));
            }
        }
        Wavesale full = Sales.prepared(5, 1, 0);
        CHECK.same("the last", full.chart(4), "-");
        CHECK.noPlace("the sixth", full, () -> full.chart(5));
    }

    private static void chartStages() {
        CHECK.promise(28, "all \"-\" ahead of STAGE 3");
        String[] due = {"-,-", "-,-", "-,-", "0,-"};
        for (int stage = 0; stage <= 3; stage++) {
            CHECK.same("in stage " + stage, Sales.inStage(stage).chart(0), due[stage]);
            CHECK.same("of nobody in stage " + stage, Sales.inStage(stage).chart(1), "-,-");
        }
    }

    private static void chartOfEachSupply() {
        CHECK.promise(28, "Returns its BLOCKS in their order: the number of the holder, or \"-\" without one, with \",\" between two (\"0,0,3,-\"); all \"-\" ahead of STAGE 3.");
        String[] none = {"-", "-,-", "-,-,-", "-,-,-,-", "-,-,-,-,-"};
        String[] all = {"5", "5,5", "5,5,5", "5,5,5,5", "5,5,5,5,5"};
        for (int supply = 1; supply <= 5; supply++) {
            Wavesale w = told(6, new int[] {supply});
            CHECK.same("none of " + supply, w.chart(0), none[supply - 1]);
            w.offer(5, supply, 50);
            w.settle(0);
            CHECK.same("all of " + supply, w.chart(0), all[supply - 1]);
        }
        Wavesale w = told(4, new int[] {4});
        w.offer(0, 2, 50);
        w.offer(3, 1, 50);
        w.settle(0);
        CHECK.same("that of the document", w.chart(0), "0,0,3,-");
    }

    private static void chartOfAllBlocks() {
        CHECK.promise(28, "Returns its BLOCKS in their order");
        Wavesale w = told(6, new int[] {5, 5, 5, 5, 5});
        int[] unit = {1, 6, 36, 216, 1296};
        for (int k = 0; k < 5; k++) {
            w.offer(k, unit[k] * (5 - k) + unit[4 - k] * k, 60);
        }
        w.settle(0);
        for (int region = 0; region < 5; region++) {
            String chart = w.chart(region);
            CHECK.same("signs", chart.length(), 9);
            for (int block = 0; block < 5; block++) {
                int holder = w.holder(region, block);
                char sign = holder < 0 ? '-' : (char) ('0' + holder);
                CHECK.same("block " + block + " of " + region, chart.charAt(2 * block), sign);
            }
        }
    }

    private static void blocksLeftOver() {
        CHECK.part(4, "BLOCKS that are left over are nobody's.");
        for (int many = 0; many <= 5; many++) {
            Wavesale w = told(1, new int[] {5});
            if (many > 0) {
                w.offer(0, many, 50);
            }
            w.settle(0);
            for (int block = 0; block < 5; block++) {
                CHECK.same("block " + block + " with " + many, w.holder(0, block), block < many ? 0 : -1);
            }
        }
    }

    private static void blocksOneBehindTheOther() {
        CHECK.part(4, "WINNERS with BLOCKS there get theirs one behind the other, from 0 on");
        Wavesale w = told(6, new int[] {5, 5});
        w.offer(0, 2, 50);
        w.offer(1, 5 * B, 50);
        w.offer(4, 2, 50);
        w.offer(5, 1, 50);
        w.settle(0);
        CHECK.same("three with blocks", w.chart(0), "0,0,4,4,5");
        CHECK.same("one with all", w.chart(1), "1,1,1,1,1");
    }

    /** Who has the only block of the first region has to be first in the second, just ahead of who is one below. */
    private static void turnOfEachKind() {
        CHECK.part(4, "With a TURN k (0 to 5)");
        CHECK.part(4, "in the order of (number + 6 - k) modulo 6");
        String[] due = {"0,1,2,4,5", "1,2,3,5,0", "2,3,4,0,1", "3,4,5,1,2", "4,5,0,2,3", "5,0,1,3,4"};
        for (int turn = 0; turn <= 5; turn++) {
            Wavesale w = told(6, new int[] {1, 5}, 0, 1);
            for (int bidder = 0; bidder <= 5; bidder++) {
                if (bidder != (turn + 3) % 6) {
                    w.offer(bidder, bidder == turn ? A + B : B, 50);
                }
            }
            w.settle(0);
            CHECK.same("the first region", w.chart(0), String.valueOf(turn));
            CHECK.same("turn " + turn, w.chart(1), due[turn]);
            CHECK.same("no clash", w.sale(13), 0);
        }
    }

    private static void turnWithTheFewest() {
        CHECK.part(4, "REGION by REGION the TURN is taken with the fewest CLASHES");
        Wavesale w = told(3, new int[] {3, 3}, 0, 1);
        w.offer(0, A + B, 50);
        w.offer(1, A + B, 50);
        w.offer(2, A + B, 50);
        w.settle(0);
        CHECK.same("none by turn 0", w.chart(1), "0,1,2");
        CHECK.same("clashes", w.sale(13), 0);
        Wavesale v = told(3, new int[] {2, 3}, 0, 1);
        v.offer(1, A + B, 50);
        v.offer(2, A + B, 50);
        v.offer(0, B, 50);
        v.settle(0);
        CHECK.same("the first region", v.chart(0), "1,2");
        CHECK.same("2 by turn 0, none by turn 1", v.chart(1), "1,2,0");
        CHECK.same("clashes", v.sale(13), 0);
    }

    private static void turnOfSeveralTheSmallest() {
        CHECK.part(0, "Where one of several is taken and nothing else is said, it is that with the smallest number.");
        Wavesale w = told(6, new int[] {1, 2}, 0, 1);
        w.offer(4, A + B, 50);
        w.offer(1, B, 50);
        w.settle(0);
        CHECK.same("turns 2, 3 and 4 are as good", w.chart(1), "4,1");
        Wavesale v = told(6, new int[] {1, 3}, 0, 1);
        v.offer(2, A, 50);
        v.offer(1, B, 50);
        v.offer(3, B, 50);
        v.offer(5, B, 50);
        v.settle(0);
        CHECK.same("a clash by each: turn 0", v.chart(1), "1,3,5");
        CHECK.same("clashes", v.sale(13), 1);
    }

    private static void neighboursWithSmallerNumber() {
        CHECK.part(4, "with NEIGHBOURS that have a smaller number");
        Wavesale w = told(2, new int[] {2, 1}, 0, 1);
        w.offer(0, A, 50);
        w.offer(1, A + B, 50);
        w.settle(0);
        CHECK.same("the first region does not look at the second", w.chart(0), "0,1");
        CHECK.same("the second has no choice", w.chart(1), "1");
        CHECK.same("the clash counts once", w.sale(13), 1);
    }

    private static void neighboursOnly() {
        CHECK.part(4, "CLASHES with NEIGHBOURS");
        Wavesale w = told(2, new int[] {1, 1, 1}, 0, 1);
        w.offer(0, A, 50);
        w.offer(1, B + 36, 50);
        w.settle(0);
        CHECK.same("one pair of neighbours", w.sale(13), 1);
        Wavesale v = told(2, new int[] {1, 1, 1});
        v.offer(0, A, 50);
        v.offer(1, B + 36, 50);
        v.settle(0);
        CHECK.same("without neighbours", v.sale(13), 0);
    }

    private static void clashOfBlocksInBoth() {
        CHECK.part(4, "a CLASH is a number that is a BLOCK in both REGIONS");
        for (int supply = 1; supply <= 5; supply++) {
            Wavesale w = told(2, new int[] {5, supply}, 0, 1);
            w.offer(0, 5, 50);
            w.offer(1, supply * B, 50);
            w.settle(0);
            CHECK.same("5 and " + supply, w.sale(13), supply);
            Wavesale v = told(2, new int[] {supply, 5}, 0, 1);
            v.offer(0, supply, 50);
            v.offer(1, 5 * B, 50);
            v.settle(0);
            CHECK.same(supply + " and 5", v.sale(13), supply);
        }
    }

    private static void clashOfHoldersInBoth() {
        CHECK.part(4, "has a holder in both");
        for (int many = 0; many <= 5; many++) {
            Wavesale w = told(2, new int[] {5, 5}, 0, 1);
            w.offer(0, 3, 50);
            if (many > 0) {
                w.offer(1, many * B, 50);
            }
            w.settle(0);
            CHECK.same("3 and " + many, w.sale(13), Math.min(3, many));
        }
    }

    private static void clashOfDifferentHolders() {
        CHECK.part(4, "and not the same one");
        Wavesale w = told(2, new int[] {5, 5}, 0, 1);
        w.offer(0, 5 + 4 * B, 50);
        w.offer(1, B, 50);
        w.settle(0);
        CHECK.same("four of the same", w.chart(1), "0,0,0,0,1");
        CHECK.same("one of another", w.sale(13), 1);
        Wavesale v = told(1, new int[] {5, 5}, 0, 1);
        v.offer(0, 35, 50);
        v.settle(0);
        CHECK.same("all of the same", v.sale(13), 0);
    }

    private static void clashesOfAll() {
        CHECK.promise(29, "13 CLASHES of all (in STAGE 3, otherwise 0)");
        Wavesale w = told(5, new int[] {5, 5, 5, 5, 5},
                0, 1, 0, 2, 0, 3, 0, 4, 1, 2, 1, 3, 1, 4, 2, 3, 2, 4, 3, 4);
        int unit = 1;
        for (int k = 0; k < 5; k++) {
            w.offer(k, 5 * unit, 50);
            unit *= 6;
        }
        w.settle(0);
        CHECK.same("five of each of ten pairs", w.sale(13), 50);
        CHECK.same("the last", w.chart(4), "4,4,4,4,4");
        w.fail(0);
        CHECK.same("of six pairs", w.sale(13), 30);
    }

    private static void clashesStages() {
        CHECK.promise(29, "13 CLASHES of all (in STAGE 3, otherwise 0)");
        Wavesale w = told(2, new int[] {1, 1}, 0, 1);
        w.offer(0, A, 50);
        w.offer(1, B, 50);
        CHECK.same("in stage 2", w.sale(13), 0);
        w.settle(0);
        CHECK.same("in stage 3", w.sale(13), 1);
    }

    private static void namesAnew() {
        CHECK.part(4, "WINNERS with BLOCKS there get theirs one behind the other");
        Wavesale w = told(3, new int[] {3}, new int[0]);
        w.offer(0, 1, 50);
        w.offer(1, 1, 50);
        w.offer(2, 1, 50);
        w.settle(0);
        CHECK.same("all three", w.chart(0), "0,1,2");
        w.fail(1);
        CHECK.same("without the second", w.chart(0), "0,2,-");
        w.fail(0);
        CHECK.same("the last", w.chart(0), "2,-,-");
        w.fail(2);
        CHECK.same("nobody", w.chart(0), "-,-,-");
        CHECK.isTrue("sound", w.isSound());
    }
}
