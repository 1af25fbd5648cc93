/** Promises 8 to 10 and 33 to 35: wishes, waivers, rounds, and the log run anew. */
public final class ClockTest {
    private static final Check CHECK = new Check("ClockTest");

    public static void main(String[] args) {
        promise8Wish();
        promise8Limits();
        promise8WhatIsAlwaysLet();
        promise9Waive();
        promise10Close();
        promise10Activity();
        promise10Contradictions();
        promise10ContradictionByWhatIsHeld();
        promise10Holding();
        promise10Prices();
        promise10Sixty();
        promise10PackagesOfTheClock();
        promise33Most();
        promise34Contradicts();
        promise34ByWhatWasHeld();
        promise35Anew();
        promise35AnewTwice();
        promise35AnewHasNoLimits();
        CHECK.end();
    }

    private static Wavesale sale(int bidders, int... suppliesPointsPrices) {
        Wavesale w = new Wavesale();
        for (int k = 0; k < suppliesPointsPrices.length; k += 3) {
            w.region(suppliesPointsPrices[k], suppliesPointsPrices[k + 1], suppliesPointsPrices[k + 2]);
        }
        for (int k = 0; k < bidders; k++) {
            w.bidder(5000, 100, 0, 0);
        }
        return w;
    }

    private static void promise8Wish() {
        Wavesale w = sale(2, 2, 3, 10, 5, 4, 10);
        CHECK.noState("wish before the opening", () -> w.wish(0, 0, 1));
        w.open();
        CHECK.same("first wish", w.wish(0, 0, 2), 6);
        CHECK.same("wish for another region", w.wish(0, 1, 5), 26);
        CHECK.same("another number", w.wish(0, 0, 1), 23);
        CHECK.same("the same number", w.wish(0, 0, 1), 23);
        CHECK.same("nothing of it", w.wish(0, 1, 0), 3);
        CHECK.same("another bidder", w.wish(1, 1, 1), 4);
        CHECK.same("what it wishes", w.wants(0, 0, false), 1);
        CHECK.same("what it holds", w.wants(0, 0, true), 0);
        CHECK.noPlace("wish of nobody", () -> w.wish(2, 0, 1));
        CHECK.noPlace("wish of -1", () -> w.wish(-1, 0, 1));
        CHECK.noPlace("wish for nothing", () -> w.wish(0, 2, 1));
        CHECK.noPlace("wish for -1", () -> w.wish(0, -1, 1));
        CHECK.noPlace("wish for nothing, and too many", () -> w.wish(0, 2, 6));
        CHECK.noArgument("wish for less than nothing", () -> w.wish(0, 0, -1));
        CHECK.noArgument("wish for 6", () -> w.wish(0, 0, 6));
        CHECK.noState("wish above supply", () -> w.wish(0, 0, 3));
        w.wish(0, 0, 0);
        w.wish(1, 1, 0);
        w.close(1);
        CHECK.same("the clock is over", w.sale(0), 2);
        CHECK.noState("wish behind the clock", () -> w.wish(0, 0, 0));
        CHECK.noArgument("wish for 6 behind the clock", () -> w.wish(0, 0, 6));
    }

    private static void promise8Limits() {
        Wavesale w = new Wavesale();
        w.region(5, 5, 10);
        w.region(5, 3, 10);
        w.bidder(0, 23, 0, 0);
        w.bidder(0, 200, 0, 2);
        w.bidder(0, 200, 0, 2);
        w.bidder(0, 200, 0, 1);
        w.rules(4, true);
        w.open();
        CHECK.same("as many as it is eligible for", w.wish(0, 0, 4), 20);
        CHECK.same("just as many", w.wish(0, 1, 1), 23);
        CHECK.noState("more than it is eligible for", () -> w.wish(0, 1, 2));
        CHECK.same("its wishes as before", w.ofBidder(0, 6), 10);
        CHECK.same("cap", w.wish(1, 1, 4), 12);
        CHECK.noState("above cap", () -> w.wish(1, 1, 5));
        CHECK.noState("above cap with its group", () -> w.wish(2, 1, 1));
        CHECK.same("another group is no matter", w.wish(3, 1, 4), 12);
        w.wish(1, 1, 1);
        CHECK.same("cap with its group", w.wish(2, 1, 3), 9);
        CHECK.noState("one too many with its group", () -> w.wish(1, 1, 2));
        CHECK.same("the group counts by region", w.wish(2, 0, 4), 29);
    }

    private static void promise8WhatIsAlwaysLet() {
        Wavesale w = new Wavesale();
        w.region(5, 1, 10);
        w.bidder(0, 10, 0, 1);
        w.bidder(0, 10, 0, 1);
        w.bidder(0, 10, 0, 0);
        w.rules(3, false);
        w.open();
        w.wish(0, 0, 3);
        w.wish(2, 0, 3);
        w.waive(1);
        w.close(1);
        w.wish(0, 0, 0);
        CHECK.same("its group wishes nothing now", w.wish(1, 0, 3), 3);
        w.close(1);
        CHECK.same("who goes holds nothing, as there is excess", w.wants(0, 0, true), 0);
        Wavesale v = new Wavesale();
        v.region(5, 1, 10);
        v.region(1, 1, 10);
        v.bidder(0, 10, 0, 1);
        v.bidder(0, 10, 0, 1);
        v.bidder(0, 10, 0, 0);
        v.bidder(0, 10, 0, 0);
        v.rules(3, false);
        v.open();
        v.wish(0, 0, 3);
        v.wish(2, 1, 1);
        v.wish(3, 1, 1);
        v.waive(1);
        v.close(1);
        v.wish(0, 0, 0);
        v.wish(1, 0, 3);
        v.close(1);
        CHECK.same("all hold more than supply", v.ofRegion(0, 4), 5);
        CHECK.same("both of a group hold more than cap", v.wants(0, 0, true), 2);
        CHECK.same("what it holds is its wish again", v.wants(0, 0, false), 2);
        CHECK.same("eligible for nothing", v.ofBidder(0, 1), 0);
        CHECK.same("the same number is let", v.wish(0, 0, 2), 2);
        CHECK.same("less is let", v.wish(0, 0, 1), 1);
        CHECK.noState("more is not", () -> v.wish(0, 0, 2));
    }

    private static void promise9Waive() {
        Wavesale w = sale(3, 1, 1, 10);
        CHECK.noState("waiver before the opening", () -> w.waive(0));
        w.open();
        w.wish(0, 0, 1);
        w.wish(1, 0, 1);
        CHECK.noPlace("waiver of nobody", () -> w.waive(3));
        CHECK.noPlace("waiver of -1", () -> w.waive(-1));
        CHECK.same("first waiver", w.waive(2), 1);
        CHECK.same("waivers left", w.ofBidder(2, 4), 1);
        CHECK.noState("twice in a round", () -> w.waive(2));
        CHECK.same("waivers left behind that", w.ofBidder(2, 4), 1);
        CHECK.same("another one", w.waive(0), 1);
        w.close(1);
        CHECK.same("eligible as before", w.ofBidder(2, 1), 100);
        CHECK.same("eligible for what it does", w.ofBidder(1, 1), 1);
        CHECK.same("last waiver", w.waive(2), 0);
        w.close(1);
        CHECK.same("eligible as before again", w.ofBidder(2, 1), 100);
        CHECK.noState("no waiver left", () -> w.waive(2));
        w.close(1);
        CHECK.same("eligible for nothing", w.ofBidder(2, 1), 0);
        Wavesale v = sale(1, 1, 1, 10);
        v.open();
        v.close(1);
        CHECK.noState("waiver behind the clock", () -> v.waive(0));
        CHECK.noPlace("waiver of nobody behind the clock", () -> v.waive(1));
    }

    private static void promise10Close() {
        Wavesale w = sale(2, 1, 1, 10);
        CHECK.noState("close before the opening", () -> w.close(1));
        CHECK.noArgument("close of 0 before the opening", () -> w.close(0));
        w.open();
        CHECK.noArgument("close of 0", () -> w.close(0));
        CHECK.noArgument("close of 10", () -> w.close(10));
        w.wish(0, 0, 1);
        w.wish(1, 0, 1);
        CHECK.same("one round", w.close(1), 1);
        CHECK.same("round 2", w.sale(1), 2);
        CHECK.same("nine rounds", w.close(9), 1);
        CHECK.same("round 11", w.sale(1), 11);
        CHECK.same("ten in the log", w.sale(15), 10);
        CHECK.same("in further ones it wishes what it holds", w.codeIn(10, 0, false), 1);
        w.wish(0, 0, 0);
        CHECK.same("the clock is over ahead of nine", w.close(9), 2);
        CHECK.same("eleven in the log", w.sale(15), 11);
        CHECK.same("the last round that was closed", w.sale(1), 11);
        CHECK.noState("close behind the clock", () -> w.close(1));
        CHECK.noArgument("close of 10 behind the clock", () -> w.close(10));
        CHECK.same("stage behind that", w.sale(0), 2);
        w.settle(0);
        CHECK.noState("close of a settled sale", () -> w.close(1));
    }

    private static void promise10Activity() {
        Wavesale w = new Wavesale();
        w.region(5, 3, 10);
        w.region(5, 4, 10);
        w.region(1, 1, 10);
        w.bidder(0, 20, 0, 0);
        w.bidder(0, 20, 0, 0);
        w.bidder(0, 20, 0, 0);
        w.bidder(0, 9, 0, 0);
        w.bidder(0, 1, 0, 0);
        w.open();
        w.wish(0, 1, 4);
        w.wish(1, 0, 5);
        w.wish(2, 0, 5);
        w.waive(2);
        w.wish(3, 2, 1);
        w.wish(4, 2, 1);
        w.close(1);
        CHECK.same("16 of 20 is just enough", w.ofBidder(0, 1), 20);
        CHECK.same("15 of 20 is not", w.ofBidder(1, 1), 18);
        CHECK.same("15 of 20 with a waiver", w.ofBidder(2, 1), 20);
        CHECK.same("1 of 9", w.ofBidder(3, 1), 1);
        CHECK.same("1 of 1", w.ofBidder(4, 1), 1);
        w.close(1);
        CHECK.same("15 of 18 is enough", w.ofBidder(1, 1), 18);
        CHECK.same("a waiver is for one round", w.ofBidder(2, 1), 18);
    }

    /** Bidder 0 goes where the price has risen: it contradicts itself, as it could have had that for less. */
    private static Wavesale contradiction(boolean isRule) {
        Wavesale w = sale(3, 1, 1, 10, 1, 1, 10);
        w.rules(5, isRule);
        w.open();
        w.wish(0, 0, 1);
        w.wish(1, 1, 1);
        w.wish(2, 1, 1);
        w.close(1);
        w.wish(0, 0, 0);
        w.wish(0, 1, 1);
        return w;
    }

    private static void promise10Contradictions() {
        Wavesale w = contradiction(true);
        CHECK.same("price that has risen", w.ofRegion(1, 3), 11);
        CHECK.same("none is counted ahead of the close", w.sale(8), 0);
        w.close(1);
        CHECK.same("it holds what it held", w.ofBidder(0, 5), 1);
        CHECK.same("it wished another bundle", w.codeIn(2, 0, false), 6);
        CHECK.same("it held that behind the round", w.codeIn(2, 0, true), 1);
        CHECK.same("its contradictions", w.ofBidder(0, 10), 1);
        CHECK.same("contradictions of another", w.ofBidder(1, 10), 0);
        CHECK.same("contradictions", w.sale(8), 1);
        CHECK.same("two hold what has risen", w.ofRegion(1, 4), 2);
        w.close(1);
        CHECK.same("no further ones", w.sale(8), 1);
        Wavesale free = contradiction(false);
        free.close(1);
        CHECK.same("without the rule it gets what it wishes", free.ofBidder(0, 5), 7);
        CHECK.same("without the rule none is counted", free.sale(8), 0);
        CHECK.same("three hold what has risen", free.ofRegion(1, 4), 3);
        lastBidderContradicts();
        activityIsThatBehindTheRule();
    }

    private static void lastBidderContradicts() {
        Wavesale w = sale(6, 1, 1, 10, 1, 1, 10, 2, 1, 10);
        w.open();
        w.wish(5, 0, 1);
        w.wish(5, 2, 1);
        w.wish(0, 1, 1);
        w.wish(1, 1, 1);
        w.close(1);
        w.wish(5, 2, 0);
        w.close(1);
        CHECK.same("it wished less", w.codeIn(2, 5, false), 1);
        CHECK.same("it holds what nobody else wishes", w.ofBidder(5, 5), 37);
        CHECK.same("and so it wishes that again", w.ofBidder(5, 6), 37);
        w.wish(5, 0, 0);
        w.wish(5, 2, 0);
        w.wish(5, 1, 1);
        w.close(1);
        CHECK.same("contradiction of the last one", w.ofBidder(5, 10), 1);
        CHECK.same("counted among all", w.sale(8), 1);
    }

    private static void activityIsThatBehindTheRule() {
        Wavesale w = new Wavesale();
        w.region(1, 5, 10);
        w.region(1, 1, 10);
        for (int k = 0; k < 3; k++) {
            w.bidder(0, 6, 0, 0);
        }
        w.open();
        w.wish(0, 0, 1);
        w.wish(1, 1, 1);
        w.wish(2, 1, 1);
        w.close(1);
        CHECK.same("5 of 6 is enough", w.ofBidder(0, 1), 6);
        w.wish(0, 0, 0);
        w.wish(0, 1, 1);
        w.close(1);
        CHECK.same("contradicted", w.ofBidder(0, 10), 1);
        CHECK.same("activity by what it holds", w.ofBidder(0, 1), 6);
    }

    private static Wavesale movedWithoutContradiction() {
        Wavesale w = sale(3, 1, 1, 10, 1, 1, 10);
        w.open();
        w.wish(0, 0, 1);
        w.wish(1, 0, 1);
        w.wish(1, 1, 1);
        w.wish(2, 1, 1);
        w.close(1);
        w.wish(0, 0, 0);
        w.wish(0, 1, 1);
        w.close(1);
        return w;
    }

    private static void promise10ContradictionByWhatIsHeld() {
        Wavesale w = movedWithoutContradiction();
        CHECK.same("both had risen alike", w.sale(8), 0);
        CHECK.same("it moved", w.ofBidder(0, 5), 6);
        CHECK.same("price of what it left", w.ofRegion(0, 3), 11);
        CHECK.same("price of what it took", w.ofRegion(1, 3), 12);
        CHECK.same("what it holds contradicts round 1", w.contradicts(0), 1);
        w.close(1);
        CHECK.same("counted", w.ofBidder(0, 10), 1);
        CHECK.same("it holds the same", w.ofBidder(0, 5), 6);
        w.close(3);
        CHECK.same("counted in each round, once", w.ofBidder(0, 10), 4);
        CHECK.same("counted of all", w.sale(8), 4);
    }

    private static void promise10Holding() {
        Wavesale w = sale(4, 3, 1, 10, 2, 1, 10);
        w.rules(5, false);
        w.open();
        for (int bidder = 0; bidder < 3; bidder++) {
            w.wish(bidder, 0, 2);
            w.wish(bidder, 1, 1);
        }
        w.close(1);
        CHECK.same("all hold as they wish", w.ofRegion(0, 4), 6);
        w.wish(0, 0, 0);
        w.wish(1, 0, 0);
        w.wish(2, 0, 1);
        w.wish(2, 1, 0);
        CHECK.same("all wish", w.ofRegion(0, 6), 1);
        w.close(1);
        CHECK.same("the first one goes to its end", w.wants(0, 0, true), 0);
        CHECK.same("the second one as far as supply lets it", w.wants(1, 0, true), 1);
        CHECK.same("the third one stays", w.wants(2, 0, true), 2);
        CHECK.same("no excess", w.ofRegion(0, 5), 0);
        CHECK.same("the third one goes from there", w.wants(2, 1, true), 0);
        CHECK.same("the clock is over", w.sale(0), 2);
        CHECK.same("what it wishes is what it holds", w.wants(1, 0, false), 1);
        CHECK.same("what all wish is what all hold", w.ofRegion(0, 6), 3);
        risesComeFirst();
    }

    private static void risesComeFirst() {
        Wavesale w = sale(3, 2, 1, 10);
        w.rules(5, false);
        w.open();
        w.wish(0, 0, 2);
        w.wish(1, 0, 1);
        w.waive(2);
        w.close(1);
        w.wish(0, 0, 0);
        w.wish(2, 0, 1);
        w.close(1);
        CHECK.same("it goes, as a later one comes", w.wants(0, 0, true), 0);
        CHECK.same("the later one holds", w.wants(2, 0, true), 1);
        Wavesale v = sale(1, 2, 1, 10);
        v.open();
        v.wish(0, 0, 2);
        v.close(1);
        CHECK.same("supply is no excess", v.sale(0), 2);
        CHECK.same("price without excess", v.ofRegion(0, 3), 10);
    }

    private static void promise10Prices() {
        Wavesale w = sale(2, 1, 1, 999, 1, 1, 1, 1, 1, 105, 1, 1, 50);
        w.open();
        for (int region = 0; region < 3; region++) {
            w.wish(0, region, 1);
            w.wish(1, region, 1);
        }
        w.wish(0, 3, 1);
        w.close(1);
        CHECK.same("999 and 99", w.ofRegion(0, 3), 1098);
        CHECK.same("1 at least", w.ofRegion(1, 3), 2);
        CHECK.same("105 and 10", w.ofRegion(2, 3), 115);
        CHECK.same("no excess", w.ofRegion(3, 3), 50);
        CHECK.same("the price in the log", w.priceIn(1, 0), 999);
        CHECK.same("start price", w.ofRegion(0, 2), 999);
        w.step(20);
        w.close(9);
        CHECK.same("price goes on", w.priceIn(10, 0), 4717);
        w.close(3);
        CHECK.same("below 9999", w.ofRegion(0, 3), 9780);
        w.close(1);
        CHECK.same("9999 at most", w.ofRegion(0, 3), 9999);
        w.close(1);
        CHECK.same("9999 still", w.ofRegion(0, 3), 9999);
        CHECK.same("the clock runs on", w.sale(0), 1);
    }

    private static void promise10Sixty() {
        Wavesale w = sale(2, 1, 1, 1, 1, 1, 7);
        w.step(1);
        w.open();
        w.wish(0, 0, 1);
        w.wish(1, 0, 1);
        w.wish(1, 1, 1);
        for (int k = 0; k < 6; k++) {
            w.close(9);
        }
        CHECK.same("round 55", w.sale(1), 55);
        CHECK.same("five more", w.close(5), 1);
        CHECK.same("round 60", w.sale(1), 60);
        CHECK.same("sixty", w.close(9), 2);
        CHECK.same("rounds of the log", w.sale(15), 60);
        CHECK.same("the last round", w.sale(1), 60);
        CHECK.same("price of round 60", w.priceIn(60, 0), 60);
        CHECK.same("price behind round 60", w.ofRegion(0, 3), 61);
        CHECK.same("excess stays", w.ofRegion(0, 5), 1);
        CHECK.same("package by the price of round 60", w.ofPackage(0, 0, true), 60);
        CHECK.same("package of both regions", w.ofPackage(1, 0, true), 67);
        CHECK.same("run anew to round 60", w.anew(60, 0, 0, 0), 67);
        CHECK.noPlace("no round 61", () -> w.priceIn(61, 0));
        CHECK.isTrue("sound behind sixty rounds", w.isSound());
    }

    private static void promise10PackagesOfTheClock() {
        Wavesale w = sale(3, 2, 1, 10, 3, 1, 100);
        w.open();
        w.wish(0, 0, 2);
        w.wish(2, 1, 2);
        w.wish(1, 0, 1);
        w.close(1);
        w.wish(1, 0, 0);
        w.close(1);
        CHECK.same("one package", w.ofBidder(0, 8), 1);
        CHECK.same("none of who holds nothing", w.ofBidder(1, 8), 0);
        CHECK.same("code of what it holds", w.ofPackage(0, 0, false), 2);
        CHECK.same("amount by the last round", w.ofPackage(0, 0, true), 22);
        CHECK.same("code of another", w.ofPackage(2, 0, false), 12);
        CHECK.same("amount of another", w.ofPackage(2, 0, true), 200);
        CHECK.same("both win", w.sale(9), 2);
        CHECK.same("worth of these", w.sale(10), 222);
        CHECK.same("payment by amounts", w.wouldPay(0, 0), 22);
        CHECK.same("payment by harm", w.wouldPay(0, 1), 0);
        Wavesale poor = new Wavesale();
        poor.region(1, 1, 500);
        poor.bidder(0, 1, 0, 0);
        poor.open();
        poor.wish(0, 0, 1);
        poor.close(1);
        CHECK.same("no budget binds the clock", poor.ofPackage(0, 0, true), 500);
    }

    private static void promise33Most() {
        Wavesale w = new Wavesale();
        w.region(5, 5, 10);
        w.region(3, 1, 10);
        w.bidder(0, 17, 0, 1);
        w.bidder(0, 200, 0, 1);
        w.bidder(0, 200, 0, 0);
        w.rules(4, false);
        CHECK.same("before the opening", w.most(0, 0), -1);
        w.open();
        CHECK.same("by what it is eligible for", w.most(0, 0), 3);
        CHECK.same("by cap", w.most(1, 0), 4);
        CHECK.same("by supply", w.most(2, 1), 3);
        w.wish(0, 1, 3);
        CHECK.same("with what it wishes of others", w.most(0, 0), 2);
        CHECK.same("with its group", w.most(1, 1), 1);
        w.wish(1, 0, 4);
        CHECK.same("nothing is left for its group", w.most(0, 0), 0);
        CHECK.same("what it wishes is let", w.most(1, 0), 4);
        CHECK.same("nothing is changed", w.wants(1, 0, false), 4);
        CHECK.noPlace("most of nobody", () -> w.most(3, 0));
        CHECK.noPlace("most of -1", () -> w.most(-1, 0));
        CHECK.noPlace("most of no region", () -> w.most(0, 2));
        CHECK.noPlace("most of region -1", () -> w.most(0, -1));
        w.wish(2, 0, 4);
        w.close(1);
        w.wish(1, 0, 0);
        CHECK.same("its group has three still", w.most(1, 1), 1);
        w.close(1);
        CHECK.same("the clock is over", w.sale(0), 2);
        CHECK.same("behind the clock", w.most(0, 0), -1);
        CHECK.noPlace("most of nobody behind the clock", () -> w.most(3, 0));
        Wavesale held = sale(2, 5, 1, 10);
        held.open();
        held.wish(0, 0, 5);
        held.wish(1, 0, 5);
        held.close(1);
        CHECK.same("what it wishes, though eligible for less", held.most(0, 0), 5);
    }

    private static void promise34Contradicts() {
        Wavesale w = contradiction(false);
        CHECK.same("also without the rule", w.contradicts(0), 1);
        CHECK.same("another one does not", w.contradicts(1), -1);
        CHECK.same("it is not counted", w.sale(8), 0);
        w.wish(0, 1, 0);
        CHECK.same("with less it does not", w.contradicts(0), -1);
        CHECK.noPlace("nobody", () -> w.contradicts(3));
        CHECK.noPlace("-1", () -> w.contradicts(-1));
        Wavesale v = sale(3, 1, 1, 10, 1, 1, 10, 1, 1, 10);
        CHECK.same("before the opening", v.contradicts(0), -1);
        v.open();
        CHECK.same("without a log", v.contradicts(0), -1);
        v.wish(1, 1, 1);
        v.wish(2, 1, 1);
        v.wish(0, 0, 1);
        v.wish(0, 2, 1);
        v.close(3);
        CHECK.same("price behind three rounds", v.ofRegion(1, 3), 13);
        CHECK.same("what it holds does not", v.contradicts(0), -1);
        v.wish(0, 2, 0);
        CHECK.same("less does not", v.contradicts(0), -1);
        v.wish(0, 1, 1);
        CHECK.same("the first round", v.contradicts(0), 1);
        laterRound();
        Wavesale over = sale(1, 1, 1, 10);
        over.open();
        over.close(1);
        CHECK.same("behind the clock", over.contradicts(0), -1);
    }

    /** It held both behind round 1, so that one says nothing; behind round 2 it had left the dearer one. */
    private static void laterRound() {
        Wavesale w = sale(3, 1, 1, 10, 1, 1, 10);
        w.open();
        w.wish(0, 0, 1);
        w.wish(0, 1, 1);
        w.wish(1, 1, 1);
        w.wish(2, 1, 1);
        w.close(1);
        w.wish(0, 1, 0);
        w.waive(0);
        w.close(1);
        CHECK.same("it left the dearer one", w.ofBidder(0, 5), 1);
        CHECK.same("what it holds does not", w.contradicts(0), -1);
        w.wish(0, 1, 1);
        CHECK.same("the second round", w.contradicts(0), 2);
        w.close(1);
        CHECK.same("it counts as any other", w.ofBidder(0, 10), 1);
    }

    private static void promise35Anew() {
        Wavesale w = sale(3, 1, 1, 100, 1, 1, 50);
        w.open();
        CHECK.noPlace("no log", () -> w.anew(1, 0, 0, 0));
        w.wish(0, 0, 1);
        w.wish(1, 0, 1);
        w.waive(1);
        w.waive(2);
        w.close(1);
        w.wish(2, 1, 1);
        w.wish(1, 1, 1);
        w.close(1);
        w.close(1);
        CHECK.same("prices now", w.ofRegion(0, 3) + w.ofRegion(1, 3), 133 + 60);
        CHECK.same("the same number", w.anew(1, 0, 0, 1), 193);
        CHECK.same("the clock would be over in round 1", w.anew(1, 0, 0, 0), 150);
        CHECK.same("a wish for it a round later", w.anew(2, 2, 1, 0), 133 + 55);
        CHECK.same("it goes in round 3", w.anew(3, 2, 1, 0), 133 + 55);
        CHECK.same("another one goes in round 3", w.anew(3, 1, 0, 0), 121 + 60);
        CHECK.same("more excess is no matter", w.anew(1, 2, 0, 1), 193);
        CHECK.same("nothing is changed", w.ofBidder(2, 5), 6);
        CHECK.same("stage is not changed", w.sale(0), 1);
        CHECK.isTrue("sound behind it", w.isSound());
        CHECK.noPlace("round 0", () -> w.anew(0, 0, 0, 0));
        CHECK.noPlace("round 4", () -> w.anew(4, 0, 0, 0));
        CHECK.noPlace("nobody", () -> w.anew(1, 3, 0, 0));
        CHECK.noPlace("bidder -1", () -> w.anew(1, -1, 0, 0));
        CHECK.noPlace("no region", () -> w.anew(1, 0, 2, 0));
        CHECK.noPlace("region -1", () -> w.anew(1, 0, -1, 0));
        CHECK.noPlace("no region, and too many", () -> w.anew(1, 0, 2, 6));
        CHECK.noArgument("6 blocks", () -> w.anew(1, 0, 0, 6));
        CHECK.noArgument("-1 block", () -> w.anew(1, 0, 0, -1));
        anewWithTheRule();
    }

    private static void anewWithTheRule() {
        Wavesale w = contradiction(true);
        w.close(1);
        CHECK.same("prices now", w.ofRegion(0, 3) + w.ofRegion(1, 3), 22);
        CHECK.same("a contradiction anew", w.anew(2, 0, 0, 0), 22);
        CHECK.same("contradictions are not counted anew", w.sale(8), 1);
        CHECK.same("it waited for the other one at first", w.anew(1, 0, 1, 1), 22);
        Wavesale v = sale(3, 1, 1, 10, 1, 1, 10);
        v.open();
        v.wish(0, 0, 1);
        v.wish(1, 1, 1);
        v.wish(2, 1, 1);
        v.close(1);
        v.wish(1, 1, 0);
        v.wish(1, 0, 1);
        v.close(1);
        CHECK.same("one goes over to the other region", v.ofRegion(0, 3) + v.ofRegion(1, 3), 11 + 11);
        CHECK.same("a contradiction by the change alone", v.anew(2, 0, 1, 1), 11 + 11);
        CHECK.same("more than one without contradiction", v.anew(2, 1, 1, 1), 11 + 12);
    }

    /** A run that holds more must leave nothing of it to the next one. */
    private static void promise35AnewTwice() {
        Wavesale w = sale(6, 3, 1, 10, 3, 1, 20, 1, 1, 30);
        w.rules(5, false);
        w.open();
        w.wish(0, 0, 3);
        w.wish(1, 0, 1);
        w.close(1);
        int due = w.anew(1, 0, 0, 3);
        CHECK.same("as it was", due, 11 + 20 + 30);
        CHECK.same("more of another", w.anew(1, 5, 1, 5), 11 + 22 + 30);
        CHECK.same("again as it was", w.anew(1, 0, 0, 3), due);
        CHECK.isTrue("sound behind that", w.isSound());
        CHECK.same("less, and the clock would be over", w.anew(1, 0, 0, 2), 10 + 20 + 30);
    }

    /** Round 1 is contradicted by what it held behind it, not by what it wished: it held more than that. */
    private static void promise34ByWhatWasHeld() {
        Wavesale w = sale(4, 2, 1, 10, 1, 1, 10);
        w.rules(5, false);
        w.open();
        w.wish(0, 0, 2);
        w.wish(1, 0, 1);
        w.wish(2, 1, 1);
        w.wish(3, 1, 1);
        w.waive(1);
        w.close(1);
        w.wish(0, 0, 0);
        w.waive(1);
        w.close(1);
        CHECK.same("it wished nothing", w.codeIn(2, 0, false), 0);
        CHECK.same("and held one", w.codeIn(2, 0, true), 1);
        CHECK.same("no excess of that then", w.ofRegion(0, 5), 0);
        w.wish(1, 0, 2);
        w.close(1);
        CHECK.same("it rises again", w.ofRegion(0, 3), 12);
        CHECK.same("what it holds contradicts nothing", w.contradicts(0), -1);
    }

    private static void promise35AnewHasNoLimits() {
        Wavesale w = new Wavesale();
        w.region(1, 9, 100);
        w.bidder(0, 9, 0, 1);
        w.bidder(0, 1, 0, 1);
        w.rules(1, true);
        w.open();
        w.wish(0, 0, 1);
        w.close(1);
        CHECK.same("the clock is over", w.sale(0), 2);
        CHECK.same("above supply, cap and what it is eligible for", w.anew(1, 1, 0, 5), 110);
        CHECK.same("price as it was", w.ofRegion(0, 3), 100);
        w.settle(0);
        CHECK.same("also of a settled sale", w.anew(1, 1, 0, 1), 110);
    }
}
