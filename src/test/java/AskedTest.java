/** Promises 19 to 23, 29 and 36 to 38: what is asked of the state, the vault, soundness, digest. */
public final class AskedTest {
    private static final Check CHECK = new Check("AskedTest");

    public static void main(String[] args) {
        promise19OfRegion();
        promise20OfBidder();
        promise21Wants();
        promise22PriceIn();
        promise23CodeIn();
        promise29Sale();
        fullHouse();
        promise29Signals();
        promise36Knock();
        promise37IsSound();
        promise38Digest();
        promise38DigestOfKnownStates();
        CHECK.end();
    }

    private static Wavesale prepared() {
        Wavesale w = new Wavesale();
        w.region(2, 3, 100);
        w.region(4, 5, 50);
        w.region(1, 1, 7);
        w.border(1, 2);
        w.border(0, 1);
        w.bidder(2000, 40, 0, 1);
        w.bidder(900, 30, 20, 1);
        w.bidder(1500, 20, 10, 0);
        w.station(0, 40);
        w.station(1, 25);
        w.station(0, 30);
        return w;
    }

    private static Wavesale running() {
        Wavesale w = prepared();
        w.open();
        w.wish(0, 0, 2);
        w.wish(0, 1, 1);
        w.wish(1, 1, 4);
        w.wish(2, 0, 1);
        return w;
    }

    private static void facts(String what, Wavesale w, int region, int... due) {
        for (int k = 0; k < due.length; k++) {
            CHECK.same(what + ", fact " + k + " of region " + region, w.ofRegion(region, k), due[k]);
        }
    }

    private static void promise19OfRegion() {
        Wavesale w = prepared();
        facts("prepared", w, 0, 2, 3, 100, 100, 0, -2, 0, 2, 2);
        facts("prepared", w, 1, 4, 5, 50, 50, 0, -4, 0, 5, 1);
        facts("prepared", w, 2, 1, 1, 7, 7, 0, -1, 0, 2, 0);
        Wavesale v = running();
        facts("running", v, 0, 2, 3, 100, 100, 0, -2, 3, 2, 2);
        v.close(1);
        facts("round 2", v, 0, 2, 3, 100, 110, 3, 1, 3, 2, 2);
        facts("round 2", v, 1, 4, 5, 50, 55, 5, 1, 5, 5, 1);
        v.wish(2, 0, 0);
        v.wish(0, 1, 0);
        facts("round 2 with wishes", v, 0, 2, 3, 100, 110, 3, 1, 2, 2, 2);
        v.close(1);
        facts("told", v, 0, 2, 3, 100, 110, 2, 0, 2, 2, 2);
        facts("told", v, 1, 4, 5, 50, 55, 4, 0, 4, 5, 1);
        v.settle(0);
        facts("settled", v, 1, 4, 5, 50, 55, 4, 0, 4, 5, 1);
        CHECK.noPlace("no region", () -> v.ofRegion(3, 0));
        CHECK.noPlace("region -1", () -> v.ofRegion(-1, 0));
        CHECK.noPlace("no region, and nothing", () -> v.ofRegion(3, 9));
        CHECK.noArgument("fact 9", () -> v.ofRegion(0, 9));
        CHECK.noArgument("fact -1", () -> v.ofRegion(0, -1));
    }

    private static void factsOfBidder(String what, Wavesale w, int bidder, int... due) {
        for (int k = 0; k < due.length; k++) {
            CHECK.same(what + ", fact " + k + " of bidder " + bidder, w.ofBidder(bidder, k), due[k]);
        }
    }

    private static void promise20OfBidder() {
        Wavesale w = running();
        factsOfBidder("running", w, 0, 2000, 40, 0, 1, 2, 0, 8, 11, 0, 0, 0);
        factsOfBidder("running", w, 1, 900, 30, 20, 1, 2, 0, 24, 20, 0, 0, 0);
        w.waive(2);
        factsOfBidder("waived", w, 2, 1500, 20, 10, 0, 1, 0, 1, 3, 0, 0, 0);
        w.close(1);
        factsOfBidder("round 2", w, 0, 2000, 13, 0, 1, 2, 8, 8, 11, 0, 0, 0);
        w.wish(0, 1, 0);
        w.wish(2, 0, 0);
        factsOfBidder("round 2 with wishes", w, 0, 2000, 13, 0, 1, 2, 8, 2, 6, 0, 0, 0);
        w.close(1);
        factsOfBidder("told", w, 0, 2000, 7, 0, 1, 2, 2, 2, 6, 1, 0, 0);
        factsOfBidder("told", w, 2, 1500, 0, 10, 0, 1, 0, 0, 0, 0, 0, 0);
        w.settle(0);
        w.fail(0);
        factsOfBidder("out", w, 0, 2000, 7, 0, 1, 2, 2, 2, 6, 1, 1, 0);
        factsOfBidder("not out", w, 1, 900, 25, 20, 1, 2, 24, 24, 20, 1, 0, 0);
        CHECK.noPlace("nobody", () -> w.ofBidder(3, 0));
        CHECK.noPlace("-1", () -> w.ofBidder(-1, 0));
        CHECK.noPlace("nobody, and nothing", () -> w.ofBidder(3, 11));
        CHECK.noArgument("fact 11", () -> w.ofBidder(0, 11));
        CHECK.noArgument("fact -1", () -> w.ofBidder(0, -1));
    }

    private static void promise21Wants() {
        Wavesale w = prepared();
        CHECK.same("wishes at first", w.wants(0, 0, false), 0);
        CHECK.same("holds at first", w.wants(0, 0, true), 0);
        Wavesale v = running();
        CHECK.same("wishes", v.wants(1, 1, false), 4);
        CHECK.same("holds", v.wants(1, 1, true), 0);
        CHECK.same("wishes of another region", v.wants(1, 0, false), 0);
        v.close(1);
        v.wish(0, 1, 0);
        CHECK.same("wishes less", v.wants(0, 1, false), 0);
        CHECK.same("than it holds", v.wants(0, 1, true), 1);
        v.wish(2, 0, 0);
        v.wish(1, 1, 3);
        v.close(1);
        CHECK.same("stage", v.sale(0), 2);
        CHECK.same("it holds what it wished no longer", v.wants(1, 1, true), 4);
        CHECK.same("which is what it wishes then", v.wants(1, 1, false), 4);
        CHECK.noPlace("nobody", () -> v.wants(3, 0, true));
        CHECK.noPlace("-1", () -> v.wants(-1, 0, true));
        CHECK.noPlace("no region", () -> v.wants(0, 3, true));
        CHECK.noPlace("region -1", () -> v.wants(0, -1, false));
    }

    private static void promise22PriceIn() {
        Wavesale w = running();
        CHECK.noPlace("no log", () -> w.priceIn(1, 0));
        w.close(2);
        int[][] due = {{100, 50, 7}, {110, 55, 7}};
        for (int round = 1; round <= 2; round++) {
            for (int region = 0; region < 3; region++) {
                CHECK.same("price of " + region + " in " + round, w.priceIn(round, region), due[round - 1][region]);
            }
        }
        CHECK.noPlace("round 0", () -> w.priceIn(0, 0));
        CHECK.noPlace("round 3", () -> w.priceIn(3, 0));
        CHECK.noPlace("round -1", () -> w.priceIn(-1, 0));
        CHECK.noPlace("no region", () -> w.priceIn(1, 3));
        CHECK.noPlace("region -1", () -> w.priceIn(1, -1));
    }

    private static void promise23CodeIn() {
        Wavesale w = running();
        CHECK.noPlace("no log", () -> w.codeIn(1, 0, true));
        w.close(1);
        w.wish(0, 1, 0);
        w.wish(2, 0, 0);
        w.wish(1, 1, 3);
        w.close(1);
        CHECK.same("wished in round 1", w.codeIn(1, 0, false), 8);
        CHECK.same("held behind round 1", w.codeIn(1, 0, true), 8);
        CHECK.same("wished in round 2", w.codeIn(2, 0, false), 2);
        CHECK.same("held behind round 2", w.codeIn(2, 0, true), 2);
        CHECK.same("another wished less", w.codeIn(2, 1, false), 18);
        CHECK.same("but held it", w.codeIn(2, 1, true), 24);
        CHECK.noPlace("round 0", () -> w.codeIn(0, 0, true));
        CHECK.noPlace("round 3", () -> w.codeIn(3, 0, true));
        CHECK.noPlace("nobody", () -> w.codeIn(1, 3, false));
        CHECK.noPlace("-1", () -> w.codeIn(1, -1, false));
    }

    private static void factsOfSale(String what, Wavesale w, int... due) {
        for (int k = 0; k < due.length; k++) {
            CHECK.same(what + ", fact " + k + " of the sale", w.sale(k), due[k]);
        }
    }

    private static void promise29Sale() {
        Wavesale w = prepared();
        w.knock();
        factsOfSale("prepared", w, 0, 0, 3, 3, 3, 5, 1, 10, 0, 0, 0, 0, 0, 0, 0, 0, 1);
        Wavesale v = running();
        v.step(12);
        factsOfSale("running", v, 1, 1, 3, 3, 3, 5, 1, 12, 0, 0, 0, 0, 0, 0, 0, 0, 0);
        v.close(1);
        v.wish(0, 1, 0);
        v.wish(2, 0, 0);
        factsOfSale("round 2", v, 1, 2, 3, 3, 3, 5, 1, 12, 0, 0, 0, 0, 0, 0, 0, 1, 0);
        v.close(1);
        factsOfSale("told", v, 2, 2, 3, 3, 3, 5, 1, 12, 0, 2, 448, 0, 0, 0, 0, 2, 0);
        v.offer(2, 6, 50);
        v.offer(2, 1 + 6 + 36, 199);
        v.settle(0);
        factsOfSale("settled", v, 3, 2, 3, 3, 3, 5, 1, 12, 0, 2, 448, 403, 0, 2, 0, 2, 0);
        v.fail(1);
        factsOfSale("a default", v, 3, 2, 3, 3, 3, 5, 1, 12, 0, 2, 274, 269, 22, 1, 0, 2, 0);
        CHECK.noArgument("fact 17", () -> v.sale(17));
        CHECK.noArgument("fact -1", () -> v.sale(-1));
    }

    private static void fullHouse() {
        Wavesale w = new Wavesale();
        for (int k = 0; k < 5; k++) {
            w.region(1 + k, 1, 10 + k);
        }
        for (int k = 0; k < 6; k++) {
            w.bidder(900, 10 + k, 0, 0);
        }
        CHECK.same("opening of five", w.open(), 60);
        CHECK.same("the last region's price", w.ofRegion(4, 3), 14);
        CHECK.same("the last bidder's points", w.ofBidder(5, 1), 15);
        for (int k = 0; k < 6; k++) {
            w.wish(k, 0, 1);
            w.wish(k, 4, 1);
        }
        w.close(1);
        CHECK.same("the last region's price then", w.ofRegion(4, 3), 15);
        CHECK.same("and in the log", w.priceIn(1, 4), 14);
        CHECK.same("the last bidder wished", w.codeIn(1, 5, false), 1297);
        CHECK.same("and held", w.codeIn(1, 5, true), 1297);
        CHECK.same("and wishes", w.ofBidder(5, 6), 1297);
        CHECK.same("run anew", w.anew(1, 5, 4, 0), 60 + 1);
        CHECK.same("prices of all five", w.anew(1, 5, 3, 1), 60 + 2);
        w.wish(5, 0, 0);
        w.close(1);
        w.wish(5, 4, 0);
        CHECK.same("no contradiction of the last one", w.contradicts(5), -1);
        w.wish(5, 0, 0);
        CHECK.same("its points", w.ofBidder(5, 7), 0);
        CHECK.isTrue("sound with all of them", w.isSound());
    }

    private static void promise29Signals() {
        Wavesale w = new Wavesale();
        for (int k = 0; k < 3; k++) {
            w.region(5, 1, 1);
        }
        w.bidder(900, 9, 0, 1);
        w.bidder(900, 9, 0, 1);
        w.bidder(900, 9, 0, 0);
        w.bidder(900, 9, 0, 0);
        w.bidder(900, 9, 0, 2);
        w.open();
        w.close(1);
        w.offer(0, 6, 10);
        w.offer(1, 1, 21);
        CHECK.same("the first package is none", w.sale(14), 0);
        w.offer(1, 1, 22);
        CHECK.same("nobody of its group has that region", w.sale(14), 0);
        w.offer(1, 1, 23);
        CHECK.same("no such region", w.sale(14), 0);
        w.offer(1, 7, 31);
        CHECK.same("it has something of it", w.sale(14), 0);
        w.offer(1, 1, 31);
        CHECK.same("a signal", w.sale(14), 1);
        w.offer(0, 36, 55);
        CHECK.same("another gets one by what is told later", w.sale(14), 2);
        w.offer(0, 12, 20);
        CHECK.same("of the other one too", w.sale(14), 3);
        w.offer(2, 6, 10);
        w.offer(2, 1, 51);
        w.offer(3, 6, 10);
        w.offer(3, 1, 51);
        CHECK.same("no group is no group", w.sale(14), 3);
        w.offer(4, 1, 40);
        w.offer(4, 1, 41);
        CHECK.same("another group is another one", w.sale(14), 3);
        w.settle(0);
        CHECK.same("behind the settling", w.sale(14), 3);
    }

    private static void promise36Knock() {
        Wavesale w = new Wavesale();
        for (int k = 1; k < 9; k++) {
            CHECK.same("knock", w.knock(), k);
            CHECK.same("refused", w.sale(16), k);
        }
        Wavesale v = running();
        CHECK.same("knock while the clock runs", v.knock(), 1);
    }

    private static void promise37IsSound() {
        CHECK.isTrue("a new object", new Wavesale().isSound());
        CHECK.isTrue("prepared", prepared().isSound());
        Wavesale w = running();
        CHECK.isTrue("running", w.isSound());
        w.close(3);
        CHECK.isTrue("round 4", w.isSound());
        w.anew(1, 0, 0, 0);
        CHECK.isTrue("behind another run", w.isSound());
        w.wish(0, 1, 0);
        w.wish(2, 0, 0);
        CHECK.isTrue("with wishes", w.isSound());
        w.close(1);
        CHECK.isTrue("told", w.isSound());
        w.offer(2, 1 + 36, 900);
        w.settle(2);
        CHECK.isTrue("settled", w.isSound());
        w.fail(2);
        CHECK.isTrue("a default", w.isSound());
    }

    /** The digest again, put together from the answers of the other calls. */
    private static long digestOf(Wavesale w) {
        long d = 58282;
        for (int what = 0; what <= 16; what++) {
            d = d * 31 + w.sale(what);
        }
        for (int region = 0; region < w.sale(2); region++) {
            for (int what = 0; what <= 8; what++) {
                d = d * 31 + w.ofRegion(region, what);
            }
            d = d * 31 + w.chart(region).length();
            for (int block = 0; block < w.ofRegion(region, 0); block++) {
                d = d * 31 + w.holder(region, block);
            }
        }
        for (int bidder = 0; bidder < w.sale(3); bidder++) {
            for (int what = 0; what <= 10; what++) {
                d = d * 31 + w.ofBidder(bidder, what);
            }
            d = d * 31 + w.wins(bidder);
            d = d * 31 + w.pays(bidder, false);
            d = d * 31 + w.pays(bidder, true);
            d = d * 31 + w.wouldPay(bidder, 1);
            d = d * 31 + w.wouldPay(bidder, 2);
            for (int nth = 0; nth < w.ofBidder(bidder, 8); nth++) {
                d = d * 31 + w.ofPackage(bidder, nth, true);
                d = d * 31 + w.ofPackage(bidder, nth, false);
            }
        }
        int last = w.sale(15);
        for (int region = 0; region < w.sale(2) && last > 0; region++) {
            d = d * 31 + w.priceIn(last, region);
        }
        for (int bidder = 0; bidder < w.sale(3) && last > 0; bidder++) {
            d = d * 31 + w.codeIn(last, bidder, false);
        }
        if (w.sale(4) > 0) {
            d = d * 31 + w.clear(1);
            d = d * 31 + w.clear(2);
        }
        return d * 31 + (w.isSound() ? 1 : 0);
    }

    private static void promise38Digest() {
        Wavesale empty = new Wavesale();
        CHECK.same("digest of a new object", empty.digest(), digestOf(empty));
        Wavesale w = prepared();
        CHECK.same("prepared", w.digest(), digestOf(w));
        Wavesale one = new Wavesale();
        one.region(1, 1, 1);
        one.station(0, 5);
        CHECK.same("with one station", one.digest(), digestOf(one));
        w = running();
        CHECK.same("running", w.digest(), digestOf(w));
        w.close(2);
        CHECK.same("round 3", w.digest(), digestOf(w));
        w.wish(0, 1, 0);
        w.wish(2, 0, 0);
        w.close(1);
        CHECK.same("told", w.digest(), digestOf(w));
        w.offer(2, 1 + 36, 470);
        w.offer(2, 1, 270);
        w.offer(0, 6, 60);
        CHECK.same("with packages", w.digest(), digestOf(w));
        w.settle(2);
        CHECK.same("settled", w.digest(), digestOf(w));
        w.fail(2);
        CHECK.same("a default", w.digest(), digestOf(w));
        Wavesale core = new Wavesale();
        core.region(1, 1, 10);
        core.region(1, 1, 10);
        for (int k = 0; k < 3; k++) {
            core.bidder(900, 9, 7, 0);
        }
        core.open();
        core.close(1);
        core.offer(0, 1, 100);
        core.offer(1, 6, 60);
        core.offer(2, 7, 131);
        CHECK.isTrue("the two ways that are in it differ", core.wouldPay(0, 1) != core.wouldPay(0, 2));
        CHECK.same("with both ways", core.digest(), digestOf(core));
        long before = w.digest();
        CHECK.same("twice the same", w.digest(), before);
        w.knock();
        CHECK.isTrue("another one behind a change", w.digest() != before);
    }

    private static void promise38DigestOfKnownStates() {
        CHECK.same("a new object", new Wavesale().digest(), 2953420522182069913L);
        Wavesale w = new Wavesale();
        for (int k = 0; k < 3; k++) {
            w.region(1, 1, 10);
        }
        for (int k = 0; k < 4; k++) {
            w.bidder(99999, 9, 0, 0);
        }
        w.open();
        w.close(1);
        w.offer(0, 1, 100);
        w.offer(1, 6, 100);
        w.offer(2, 36, 100);
        w.offer(3, 43, 270);
        w.offer(3, 1, 99);
        w.offer(0, 7, 160);
        w.offer(1, 42, 170);
        w.settle(2);
        w.fail(1);
        CHECK.same("a settled sale", w.digest(), -3647041072152889197L);
    }
}
