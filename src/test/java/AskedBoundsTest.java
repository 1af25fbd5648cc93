import java.math.BigInteger;

/** Promises 19 to 23, 29 and 36 to 38, and part 6's signals and vault, sentence by sentence. */
public final class AskedBoundsTest {
    private static final Check CHECK = new Check("AskedBoundsTest");
    private static final int[] NOBODY = {2, -1, Integer.MIN_VALUE, Integer.MAX_VALUE};

    public static void main(String[] args) {
        ofRegionPlaces();
        ofRegionFacts();
        ofRegionInEachStage();
        ofRegionEmptyAndFull();
        ofBidderPlaces();
        ofBidderFacts();
        ofBidderInEachStage();
        ofBidderEmptyAndFull();
        wantsPlaces();
        wantsInEachStage();
        priceInPlaces();
        priceInRounds();
        codeInPlaces();
        codeInRounds();
        saleFacts();
        saleInEachStage();
        saleOfNothing();
        signalsAboveNothing();
        signalsByDigit();
        signalsOfWhatItHasNot();
        signalsOfItsGroup();
        signalsOfAFullHouse();
        signalsByThatOfTheClock();
        signalsStages();
        knocks();
        soundInEachStage();
        soundWithAll();
        digestWrapsAround();
        digestOfNothing();
        digestInEachStage();
        digestOfWaysAndWishes();
        digestOfStations();
        digestChangesNothing();
        refusedCallsChangeNothing();
        CHECK.end();
    }

    private static void ofRegionPlaces() {
        CHECK.promise(19, "Throws `IndexOutOfBoundsException` if there is no such REGION");
        Wavesale none = new Wavesale();
        CHECK.noPlace("of nothing", none, () -> none.ofRegion(0, 0));
        for (int stage = 0; stage <= 3; stage++) {
            Wavesale w = Sales.inStage(stage);
            for (int far : NOBODY) {
                CHECK.noPlace("region " + far + " in stage " + stage, w, () -> w.ofRegion(far, 0));
                CHECK.noPlace("region " + far + ", fact 9", w, () -> w.ofRegion(far, 9));
                CHECK.noPlace("region " + far + ", fact -1", w, () -> w.ofRegion(far, -1));
            }
        }
        Wavesale full = Sales.prepared(5, 3, 0);
        CHECK.same("the last", full.ofRegion(4, 0), 3);
        CHECK.noPlace("the sixth", full, () -> full.ofRegion(5, 0));
    }

    private static void ofRegionFacts() {
        CHECK.promise(19, "Throws `IllegalArgumentException` if what is not 0 to 8");
        for (int stage = 0; stage <= 3; stage++) {
            Wavesale w = Sales.inStage(stage);
            CHECK.noArgument("fact 9 in stage " + stage, w, () -> w.ofRegion(0, 9));
            for (int far : Sales.FAR_OFF) {
                CHECK.noArgument("fact " + far + " in stage " + stage, w, () -> w.ofRegion(0, far));
            }
            CHECK.same("fact 0", w.ofRegion(1, 0), 2);
            CHECK.same("fact 8", w.ofRegion(0, 8), 1);
        }
    }

    private static void ofRegionInEachStage() {
        CHECK.promise(19, "3 PRICE now (START price in STAGE 0), 4 what all HOLD together, 5 what all HOLD together now less SUPPLY (can be below 0), 6 what all WISH together (what all HOLD in STAGES 2 and 3)");
        CHECK.promise(19, "Returns that.");
        int[][] due = {{2, 1, 10, 10, 0, -2, 0, 0, 1}, {2, 1, 10, 10, 0, -2, 1, 0, 1},
            {2, 1, 10, 10, 1, -1, 1, 0, 1}, {2, 1, 10, 10, 1, -1, 1, 0, 1}};
        for (int stage = 0; stage <= 3; stage++) {
            Wavesale w = Sales.inStage(stage);
            for (int what = 0; what <= 8; what++) {
                CHECK.same("fact " + what + " in stage " + stage, w.ofRegion(0, what), due[stage][what]);
            }
        }
        Wavesale w = Sales.opened(1, 1, 2);
        w.wish(0, 0, 1);
        w.wish(1, 0, 1);
        w.close(1);
        w.wish(0, 0, 0);
        CHECK.same("price in stage 1", w.ofRegion(0, 3), 11);
        CHECK.same("held", w.ofRegion(0, 4), 2);
        CHECK.same("wished", w.ofRegion(0, 6), 1);
        w.close(1);
        CHECK.same("price in stage 2", w.ofRegion(0, 3), 11);
        CHECK.same("start price in stage 2", w.ofRegion(0, 2), 10);
        CHECK.same("wished in stage 2", w.ofRegion(0, 6), 1);
    }

    private static void ofRegionEmptyAndFull() {
        CHECK.promise(19, "7 the set of its NEIGHBOURS, 8 how many STATIONS are in it");
        Wavesale w = Sales.prepared(5, 5, 6);
        CHECK.same("no neighbours", w.ofRegion(4, 7), 0);
        CHECK.same("no stations", w.ofRegion(4, 8), 0);
        for (int k = 0; k < 4; k++) {
            w.border(4, k);
        }
        for (int k = 0; k < 10; k++) {
            w.station(4, 5);
        }
        CHECK.same("all neighbours", w.ofRegion(4, 7), 15);
        CHECK.same("all stations", w.ofRegion(4, 8), 10);
        CHECK.same("none of another", w.ofRegion(0, 8), 0);
        w.open();
        for (int k = 0; k < 6; k++) {
            w.wish(k, 4, 5);
        }
        CHECK.same("all wish", w.ofRegion(4, 6), 30);
        w.close(1);
        CHECK.same("all hold", w.ofRegion(4, 4), 30);
        CHECK.same("less supply", w.ofRegion(4, 5), 25);
    }

    private static void ofBidderPlaces() {
        CHECK.promise(20, "Throws `IndexOutOfBoundsException` if there is no such BIDDER");
        Wavesale none = new Wavesale();
        CHECK.noPlace("of nobody", none, () -> none.ofBidder(0, 0));
        for (int stage = 0; stage <= 3; stage++) {
            Wavesale w = Sales.inStage(stage);
            for (int far : NOBODY) {
                CHECK.noPlace("bidder " + far + " in stage " + stage, w, () -> w.ofBidder(far, 0));
                CHECK.noPlace("bidder " + far + ", fact 11", w, () -> w.ofBidder(far, 11));
                CHECK.noPlace("bidder " + far + ", fact -1", w, () -> w.ofBidder(far, -1));
            }
        }
        Wavesale full = Sales.prepared(0, 1, 6);
        CHECK.same("the sixth", full.ofBidder(5, 0), 90000);
        CHECK.noPlace("the seventh", full, () -> full.ofBidder(6, 0));
    }

    private static void ofBidderFacts() {
        CHECK.promise(20, "Throws `IllegalArgumentException` if what is not 0 to 10");
        for (int stage = 0; stage <= 3; stage++) {
            Wavesale w = Sales.inStage(stage);
            CHECK.noArgument("fact 11 in stage " + stage, w, () -> w.ofBidder(0, 11));
            for (int far : Sales.FAR_OFF) {
                CHECK.noArgument("fact " + far + " in stage " + stage, w, () -> w.ofBidder(0, far));
            }
            CHECK.same("fact 0", w.ofBidder(1, 0), 90000);
            CHECK.same("fact 10", w.ofBidder(1, 10), 0);
        }
    }

    private static void ofBidderInEachStage() {
        CHECK.promise(20, "5 the code of what it HOLDS, 6 of what it WISHES (what it HOLDS in STAGES 2 and 3), 7 ACTIVITY by that, 8 PACKAGES, 9 1 if it is OUT, otherwise 0, 10 CONTRADICTIONS of it");
        CHECK.promise(20, "Returns that.");
        int[][] due = {{90000, 9, 0, 0, 2, 0, 0, 0, 0, 0, 0}, {90000, 9, 0, 0, 2, 0, 1, 1, 0, 0, 0},
            {90000, 1, 0, 0, 2, 1, 1, 1, 1, 0, 0}, {90000, 1, 0, 0, 2, 1, 1, 1, 1, 0, 0}};
        for (int stage = 0; stage <= 3; stage++) {
            Wavesale w = Sales.inStage(stage);
            for (int what = 0; what <= 10; what++) {
                CHECK.same("fact " + what + " in stage " + stage, w.ofBidder(0, what), due[stage][what]);
            }
        }
        Wavesale w = Sales.inStage(3);
        w.fail(0);
        CHECK.same("out", w.ofBidder(0, 9), 1);
        CHECK.same("it holds what it held", w.ofBidder(0, 5), 1);
        CHECK.same("its packages", w.ofBidder(0, 8), 1);
    }

    private static void ofBidderEmptyAndFull() {
        CHECK.promise(20, "7 ACTIVITY by that");
        Wavesale w = new Wavesale();
        for (int k = 0; k < 5; k++) {
            w.region(5, 8, 1);
        }
        w.bidder(0, 200, 0, 0);
        w.bidder(0, 200, 0, 0);
        w.open();
        CHECK.same("of nothing", w.ofBidder(0, 7), 0);
        for (int k = 0; k < 5; k++) {
            w.wish(0, k, 5);
            w.wish(1, k, 5);
        }
        CHECK.same("of all", w.ofBidder(0, 7), 200);
        CHECK.same("code of all", w.ofBidder(0, 6), 7775);
        w.close(1);
        CHECK.same("holding all", w.ofBidder(1, 5), 7775);
        w.wish(1, 4, 0);
        CHECK.same("activity by what it wishes", w.ofBidder(1, 7), 160);
        CHECK.same("waivers", w.waive(1), 1);
        CHECK.same("one less", w.ofBidder(1, 4), 1);
    }

    private static void wantsPlaces() {
        CHECK.promise(21, "Throws `IndexOutOfBoundsException` if there is no such BIDDER, or REGION");
        Wavesale none = new Wavesale();
        CHECK.noPlace("of nobody", none, () -> none.wants(0, 0, true));
        for (int stage = 0; stage <= 3; stage++) {
            Wavesale w = Sales.inStage(stage);
            for (int far : NOBODY) {
                CHECK.noPlace("bidder " + far + " in stage " + stage, w, () -> w.wants(far, 0, true));
                CHECK.noPlace("region " + far + " in stage " + stage, w, () -> w.wants(0, far, true));
                CHECK.noPlace("bidder " + far + ", wished", w, () -> w.wants(far, 0, false));
                CHECK.noPlace("region " + far + ", wished", w, () -> w.wants(0, far, false));
            }
        }
        Wavesale full = Sales.opened(5, 5, 6);
        full.wish(5, 4, 5);
        CHECK.same("the last ones", full.wants(5, 4, false), 5);
        CHECK.noPlace("the seventh bidder", full, () -> full.wants(6, 4, false));
        CHECK.noPlace("the sixth region", full, () -> full.wants(5, 5, false));
    }

    private static void wantsInEachStage() {
        CHECK.promise(21, "otherwise what it WISHES (what it HOLDS in STAGES 2 and 3)");
        CHECK.promise(21, "Returns how many BLOCKS.");
        int[] held = {0, 0, 1, 1};
        int[] wished = {0, 1, 1, 1};
        for (int stage = 0; stage <= 3; stage++) {
            Wavesale w = Sales.inStage(stage);
            CHECK.same("held in stage " + stage, w.wants(0, 0, true), held[stage]);
            CHECK.same("wished in stage " + stage, w.wants(0, 0, false), wished[stage]);
        }
        Wavesale w = Sales.opened(5, 5, 1);
        for (int many = 0; many <= 5; many++) {
            w.wish(0, 4, many);
            CHECK.same("so many", w.wants(0, 4, false), many);
            CHECK.same("of another region", w.wants(0, 3, false), 0);
        }
    }

    private static void priceInPlaces() {
        CHECK.promise(22, "Throws `IndexOutOfBoundsException` if there is no such ROUND in the LOG (1 and so on), or REGION");
        Wavesale none = new Wavesale();
        CHECK.noPlace("of nothing", none, () -> none.priceIn(1, 0));
        for (int stage = 0; stage <= 3; stage++) {
            Wavesale w = Sales.inStage(stage);
            for (int far : new int[] {stage < 2 ? 1 : 2, 0, -1, Integer.MIN_VALUE, Integer.MAX_VALUE}) {
                CHECK.noPlace("round " + far + " in stage " + stage, w, () -> w.priceIn(far, 0));
            }
            for (int far : NOBODY) {
                CHECK.noPlace("region " + far + " in stage " + stage, w, () -> w.priceIn(1, far));
            }
        }
    }

    private static Wavesale sixty() {
        Wavesale w = Sales.prepared(5, 1, 6);
        w.step(1);
        w.open();
        w.wish(5, 4, 1);
        w.wish(0, 4, 1);
        for (int k = 0; k < 7; k++) {
            w.close(k == 6 ? 6 : 9);
        }
        return w;
    }

    private static void priceInRounds() {
        CHECK.promise(22, "Returns its PRICE in that ROUND.");
        Wavesale w = sixty();
        for (int round = 1; round <= 60; round++) {
            CHECK.same("in " + round, w.priceIn(round, 4), 9 + round);
            CHECK.same("of another in " + round, w.priceIn(round, 0), 10);
        }
        CHECK.noPlace("in 61", w, () -> w.priceIn(61, 4));
        CHECK.noPlace("in 0", w, () -> w.priceIn(0, 4));
        CHECK.noPlace("of a sixth region", w, () -> w.priceIn(60, 5));
    }

    private static void codeInPlaces() {
        CHECK.promise(23, "Throws `IndexOutOfBoundsException` if there is no such ROUND in the LOG, or BIDDER");
        Wavesale none = new Wavesale();
        CHECK.noPlace("of nothing", none, () -> none.codeIn(1, 0, true));
        for (int stage = 0; stage <= 3; stage++) {
            Wavesale w = Sales.inStage(stage);
            for (int far : new int[] {stage < 2 ? 1 : 2, 0, -1, Integer.MIN_VALUE, Integer.MAX_VALUE}) {
                CHECK.noPlace("round " + far + " in stage " + stage, w, () -> w.codeIn(far, 0, true));
                CHECK.noPlace("round " + far + ", wished", w, () -> w.codeIn(far, 0, false));
            }
            for (int far : NOBODY) {
                CHECK.noPlace("bidder " + far + " in stage " + stage, w, () -> w.codeIn(1, far, true));
                CHECK.noPlace("bidder " + far + ", wished", w, () -> w.codeIn(1, far, false));
            }
        }
    }

    private static void codeInRounds() {
        CHECK.promise(23, "Returns the code of that.");
        Wavesale w = sixty();
        for (int round = 1; round <= 60; round++) {
            CHECK.same("wished in " + round, w.codeIn(round, 5, false), 1296);
            CHECK.same("held behind " + round, w.codeIn(round, 5, true), 1296);
            CHECK.same("of another in " + round, w.codeIn(round, 4, true), 0);
        }
        CHECK.noPlace("in 61", w, () -> w.codeIn(61, 5, true));
        CHECK.noPlace("in 0", w, () -> w.codeIn(0, 5, true));
        CHECK.noPlace("of a seventh bidder", w, () -> w.codeIn(60, 6, true));
        CHECK.promise(23, "otherwise what it WISHED as it was CLOSED");
        Wavesale v = Sales.opened(1, 3, 2);
        v.wish(0, 0, 2);
        v.wish(1, 0, 2);
        v.close(1);
        v.wish(0, 0, 0);
        v.close(1);
        CHECK.same("wished none", v.codeIn(2, 0, false), 0);
        CHECK.same("but held one behind it", v.codeIn(2, 0, true), 1);
    }

    private static void saleFacts() {
        CHECK.promise(29, "Throws `IllegalArgumentException` if what is not 0 to 16");
        for (int stage = 0; stage <= 3; stage++) {
            Wavesale w = Sales.inStage(stage);
            CHECK.noArgument("fact 17 in stage " + stage, w, () -> w.sale(17));
            for (int far : Sales.FAR_OFF) {
                CHECK.noArgument("fact " + far + " in stage " + stage, w, () -> w.sale(far));
            }
            CHECK.same("fact 0", w.sale(0), stage);
            CHECK.same("fact 16", w.sale(16), 0);
        }
    }

    private static void saleInEachStage() {
        CHECK.promise(29, "0 STAGE, 1 ROUND (0 in STAGE 0; the last one that was CLOSED in STAGES 2 and 3)");
        CHECK.promise(29, "9 WINNERS (0 in STAGES 0 and 1), 10 WORTH of all (0 in STAGES 0 and 1), 11 what is DUE of all together (in STAGE 3, otherwise 0)");
        CHECK.promise(29, "Returns that.");
        int[][] due = {{0, 0, 2, 2, 1, 5, 1, 10, 0, 0, 0, 0, 0, 0, 0, 0, 0},
            {1, 1, 2, 2, 1, 5, 1, 10, 0, 0, 0, 0, 0, 0, 0, 0, 0},
            {2, 1, 2, 2, 1, 5, 1, 10, 0, 1, 10, 0, 0, 0, 0, 1, 0},
            {3, 1, 2, 2, 1, 5, 1, 10, 0, 1, 10, 10, 0, 0, 0, 1, 0}};
        for (int stage = 0; stage <= 3; stage++) {
            Wavesale w = Sales.inStage(stage);
            for (int what = 0; what <= 16; what++) {
                CHECK.same("fact " + what + " in stage " + stage, w.sale(what), due[stage][what]);
            }
        }
        Wavesale w = Sales.inStage(3);
        w.fail(0);
        int[] out = {3, 1, 2, 2, 1, 5, 1, 10, 0, 0, 0, 0, 1, 0, 0, 1, 0};
        for (int what = 0; what <= 16; what++) {
            CHECK.same("fact " + what + " behind a default", w.sale(what), out[what]);
        }
    }

    private static void saleOfNothing() {
        CHECK.promise(29, "2 REGIONS, 3 BIDDERS, 4 STATIONS, 5 CAP, 6 1 if the RULE is on, otherwise 0, 7 STEP");
        Wavesale w = new Wavesale();
        int[] none = {0, 0, 0, 5, 1, 10};
        for (int k = 0; k < 6; k++) {
            CHECK.same("fact " + (2 + k) + " of a new object", w.sale(2 + k), none[k]);
        }
        for (int k = 0; k < 10; k++) {
            if (k < 5) {
                w.region(1, 1, 1);
            }
            if (k < 6) {
                w.bidder(0, 1, 0, 0);
            }
            w.station(0, 5);
        }
        w.rules(1, false);
        w.step(20);
        int[] all = {5, 6, 10, 1, 0, 20};
        for (int k = 0; k < 6; k++) {
            CHECK.same("fact " + (2 + k) + " of a full one", w.sale(2 + k), all[k]);
        }
    }

    /** Three regions; the first two are of group 1, the third of 2, the last two of none; nobody has a package yet. */
    private static Wavesale grouped() {
        Wavesale w = Sales.prepared(3, 5, 0);
        for (int group : new int[] {1, 1, 2, 0, 0}) {
            w.bidder(999, 9, 0, group);
        }
        w.open();
        w.close(1);
        return w;
    }

    private static void signalsAboveNothing() {
        CHECK.part(6, "A SIGNAL is a PACKAGE with a number above 0");
        Wavesale w = grouped();
        w.offer(1, 6, 10);
        w.offer(0, 1, 31);
        CHECK.same("number 0", w.sale(14), 0);
        w.offer(0, 1, 31);
        CHECK.same("number 1", w.sale(14), 1);
        for (int k = 2; k < 6; k++) {
            w.offer(0, 1, 31);
            CHECK.same("number " + k, w.sale(14), k);
        }
    }

    private static void signalsByDigit() {
        CHECK.part(6, "whose AMOUNT modulo 10 is the number of a REGION");
        for (int digit = 0; digit <= 9; digit++) {
            Wavesale w = grouped();
            w.offer(1, 6 + 36, 20);
            w.offer(0, 1, 30);
            w.offer(0, 1, 30 + digit);
            CHECK.same("digit " + digit, w.sale(14), digit == 1 || digit == 2 ? 1 : 0);
        }
        Wavesale full = Sales.prepared(5, 5, 0);
        full.bidder(999, 9, 0, 3);
        full.bidder(999, 9, 0, 3);
        full.open();
        full.close(1);
        full.offer(1, 1 + 6 + 36 + 216 + 1296, 50);
        full.offer(0, 1, 10);
        for (int digit = 4; digit <= 5; digit++) {
            full.offer(0, 1, 20 + digit);
            CHECK.same("of five regions, digit " + digit, full.sale(14), 1);
        }
    }

    private static void signalsOfWhatItHasNot() {
        CHECK.part(6, "of which its BUNDLE has nothing");
        Wavesale w = grouped();
        w.offer(1, 1 + 6, 20);
        w.offer(0, 1, 30);
        w.offer(0, 1, 30);
        CHECK.same("it has one of it", w.sale(14), 0);
        w.offer(0, 1 + 6, 31);
        CHECK.same("it has one of that too", w.sale(14), 0);
        w.offer(0, 6, 30);
        CHECK.same("it has none of it", w.sale(14), 1);
    }

    private static void signalsOfItsGroup() {
        CHECK.part(6, "and of which another BIDDER of the same GROUP (not 0) has something in one of its PACKAGES");
        Wavesale w = grouped();
        w.offer(0, 6, 10);
        w.offer(0, 1, 31);
        CHECK.same("itself is no other", w.sale(14), 0);
        w.offer(2, 6, 10);
        CHECK.same("another group", w.sale(14), 0);
        w.offer(3, 6, 10);
        w.offer(4, 1, 10);
        w.offer(4, 1, 31);
        CHECK.same("no group is no group", w.sale(14), 0);
        w.offer(1, 1, 10);
        CHECK.same("its group has nothing of it", w.sale(14), 0);
        w.offer(1, 5 * 6, 59);
        CHECK.same("in one of its packages it has", w.sale(14), 1);
    }

    private static void signalsOfAFullHouse() {
        CHECK.part(6, "has something in one of its PACKAGES");
        Wavesale w = Sales.prepared(5, 5, 0);
        for (int k = 0; k < 6; k++) {
            w.bidder(999, 9, 0, 1 + k % 3);
        }
        w.open();
        w.close(1);
        for (int k = 0; k < 6; k++) {
            for (int nth = 0; nth < 6; nth++) {
                w.offer(k, 1 + 6 * (nth / 5), 60 + nth);
            }
        }
        CHECK.same("of each bidder the one with digit 1", w.sale(14), 6);
        Wavesale alone = Sales.prepared(5, 5, 5);
        alone.bidder(999, 9, 0, 3);
        alone.open();
        alone.close(1);
        for (int nth = 0; nth < 6; nth++) {
            alone.offer(5, 1, 11);
        }
        CHECK.same("nobody else of the group of the last one", alone.sale(14), 0);
    }

    private static void signalsByThatOfTheClock() {
        CHECK.part(6, "has something in one of its PACKAGES");
        Wavesale w = Sales.prepared(2, 5, 0);
        w.bidder(999, 9, 0, 1);
        w.bidder(999, 9, 0, 1);
        w.open();
        w.wish(0, 0, 1);
        w.wish(1, 1, 1);
        w.close(1);
        CHECK.same("packages of the clock are none", w.sale(14), 0);
        w.offer(0, 1, 21);
        CHECK.same("one by that of the other", w.sale(14), 1);
        w.offer(1, 6, 20);
        CHECK.same("and one of the other", w.sale(14), 2);
    }

    private static void signalsStages() {
        CHECK.promise(29, "14 SIGNALS, 15 ROUNDS of the LOG, 16 how many were REFUSED");
        for (int stage = 0; stage <= 3; stage++) {
            CHECK.same("in stage " + stage, Sales.inStage(stage).sale(14), 0);
        }
        Wavesale w = grouped();
        w.offer(1, 6, 10);
        w.offer(0, 1, 10);
        w.offer(0, 1, 31);
        w.settle(0);
        CHECK.same("when settled", w.sale(14), 1);
        w.fail(1);
        CHECK.same("a default takes no package away", w.sale(14), 1);
    }

    private static void knocks() {
        CHECK.part(6, "The VAULT of bids has a KEY: who knocks without it is REFUSED (counted).");
        CHECK.promise(36, "Returns how many were REFUSED ever, with this.");
        for (int stage = 0; stage <= 3; stage++) {
            Wavesale w = Sales.inStage(stage);
            CHECK.same("none yet", w.sale(16), 0);
            CHECK.same("the first in stage " + stage, w.knock(), 1);
            CHECK.same("the second", w.knock(), 2);
            CHECK.same("both", w.sale(16), 2);
            CHECK.same("stage", w.sale(0), stage);
        }
        Wavesale w = Sales.prepared(1, 1, 1);
        w.knock();
        w.open();
        w.knock();
        w.close(1);
        w.knock();
        w.settle(0);
        CHECK.same("in all stages together", w.knock(), 4);
    }

    private static void soundInEachStage() {
        CHECK.promise(37, "Returns whether all of this is so");
        CHECK.isTrue("a new object", new Wavesale().isSound());
        for (int stage = 0; stage <= 3; stage++) {
            CHECK.isTrue("stage " + stage, Sales.inStage(stage).isSound());
        }
        CHECK.isTrue("sixty rounds", sixty().isSound());
        Wavesale w = Sales.inStage(3);
        w.fail(0);
        CHECK.isTrue("nobody is left", w.isSound());
    }

    private static void soundWithAll() {
        CHECK.promise(37, "the LOG, RUN ANEW without any change, comes to the PRICES of now, and to what each HOLDS now");
        Wavesale w = Sales.prepared(1, 1, 6);
        CHECK.isTrue("without a log", w.isSound());
        w.open();
        for (int k = 0; k < 6; k++) {
            w.wish(k, 0, 1);
        }
        CHECK.isTrue("with wishes", w.isSound());
        for (int k = 0; k < 5; k++) {
            w.step(1 + 4 * k);
            w.close(1);
            CHECK.isTrue("behind round " + (k + 1), w.isSound());
            w.wish(k, 0, 0);
            CHECK.isTrue("with less", w.isSound());
        }
        w.close(9);
        CHECK.same("the clock is over", w.sale(0), 2);
        CHECK.isTrue("then", w.isSound());
    }

    private static long wrapped(int... values) {
        BigInteger d = BigInteger.valueOf(58282);
        for (int v : values) {
            d = d.multiply(BigInteger.valueOf(31)).add(BigInteger.valueOf(v));
        }
        return d.longValue();
    }

    private static void digestWrapsAround() {
        CHECK.promise(38, "A number d starts with 58282; then d becomes d * 31 + v, which wraps around as a 64-bit integer");
        CHECK.same("of a region and a bidder", Sales.prepared(1, 1, 1).digest(), wrapped(
                0, 0, 1, 1, 0, 5, 1, 10, 0, 0, 0, 0, 0, 0, 0, 0, 0,
                1, 1, 10, 10, 0, -1, 0, 0, 0, 1, -1,
                90000, 9, 0, 0, 2, 0, 0, 0, 0, 0, 0, -1, 0, 0, 0, 0,
                1));
        CHECK.same("in stage 3, and with a station", Sales.inStage(3).digest(), wrapped(
                3, 1, 2, 2, 1, 5, 1, 10, 0, 1, 10, 10, 0, 0, 0, 1, 0,
                2, 1, 10, 10, 1, -1, 1, 0, 1, 3, 0, -1,
                2, 1, 10, 10, 0, -2, 0, 0, 0, 3, -1, -1,
                90000, 1, 0, 0, 2, 1, 1, 1, 1, 0, 0, 0, 10, 10, 0, 0, 10, 1,
                90000, 0, 0, 0, 2, 0, 0, 0, 0, 0, 0, -1, 0, 0, 0, 0,
                10, 10, 1, 0,
                0, 0,
                1));
    }

    private static void digestOfNothing() {
        CHECK.promise(38, "sale() of 0 to 16");
        CHECK.same("of a new object", new Wavesale().digest(),
                wrapped(0, 0, 0, 0, 0, 5, 1, 10, 0, 0, 0, 0, 0, 0, 0, 0, 0, 1));
        CHECK.same("with a knock", knocked().digest(),
                wrapped(0, 0, 0, 0, 0, 5, 1, 10, 0, 0, 0, 0, 0, 0, 0, 0, 1, 1));
    }

    private static Wavesale knocked() {
        Wavesale w = new Wavesale();
        w.knock();
        return w;
    }

    private static void digestInEachStage() {
        CHECK.promise(38, "of the last ROUND in the LOG, if there is one, REGION by REGION priceIn(), and BIDDER by BIDDER codeIn() of what was WISHED");
        CHECK.same("in stage 1, without a log", Sales.opened(1, 1, 1).digest(), wrapped(
                1, 1, 1, 1, 0, 5, 1, 10, 0, 0, 0, 0, 0, 0, 0, 0, 0,
                1, 1, 10, 10, 0, -1, 0, 0, 0, 1, -1,
                90000, 9, 0, 0, 2, 0, 0, 0, 0, 0, 0, -1, 0, 0, 0, 0,
                1));
        Wavesale w = Sales.opened(1, 1, 2);
        w.wish(0, 0, 1);
        w.wish(1, 0, 1);
        w.close(1);
        w.wish(0, 0, 0);
        w.close(1);
        CHECK.same("of the last of two", w.digest(), wrapped(
                2, 2, 1, 2, 0, 5, 1, 10, 0, 1, 11, 0, 0, 0, 0, 2, 0,
                1, 1, 10, 11, 1, 0, 1, 0, 0, 1, -1,
                90000, 0, 0, 0, 2, 0, 0, 0, 0, 0, 0, -1, 0, 0, 0, 0,
                90000, 1, 0, 0, 2, 1, 1, 1, 1, 0, 0, 0, 0, 0, 0, 0, 11, 1,
                11, 0, 1,
                1));
    }

    private static void digestOfWaysAndWishes() {
        CHECK.promise(38, "wins(), pays(): the PAYMENT, then what is DUE, wouldPay() of 1 and 2, and PACKAGE by PACKAGE of it the AMOUNT, then the code");
        Wavesale w = Sales.prepared(2, 1, 0);
        for (int k = 0; k < 3; k++) {
            w.bidder(900, 9, 10, 0);
        }
        w.open();
        w.close(1);
        w.offer(0, 1, 100);
        w.offer(1, 6, 60);
        w.offer(2, 7, 131);
        w.settle(0);
        CHECK.same("with 71 and 86, 31 and 45", w.digest(), wrapped(
                3, 1, 2, 3, 0, 5, 1, 10, 0, 2, 160, 144, 0, 0, 0, 1, 0,
                1, 1, 10, 10, 0, -1, 0, 0, 0, 1, 0,
                1, 1, 10, 10, 0, -1, 0, 0, 0, 1, 1,
                900, 0, 10, 0, 2, 0, 0, 0, 1, 0, 0, 0, 100, 90, 71, 86, 100, 1,
                900, 0, 10, 0, 2, 0, 0, 0, 1, 0, 0, 0, 60, 54, 31, 45, 60, 6,
                900, 0, 10, 0, 2, 0, 0, 0, 1, 0, 0, -1, 0, 0, 0, 0, 131, 7,
                10, 10, 0, 0, 0,
                1));
        CHECK.promise(38, "BIDDER by BIDDER codeIn() of what was WISHED");
        Wavesale v = Sales.opened(1, 3, 2);
        v.wish(0, 0, 2);
        v.wish(1, 0, 2);
        v.close(1);
        v.wish(0, 0, 0);
        v.close(1);
        CHECK.same("wished 0 and 2, held 1 and 2", v.digest(), wrapped(
                2, 2, 1, 2, 0, 5, 1, 10, 0, 2, 33, 0, 0, 0, 0, 2, 0,
                3, 1, 10, 11, 3, 0, 3, 0, 0, 5, -1, -1, -1,
                90000, 0, 0, 0, 2, 1, 1, 1, 1, 0, 0, 0, 0, 0, 0, 0, 11, 1,
                90000, 2, 0, 0, 2, 2, 2, 2, 1, 0, 0, 0, 0, 0, 0, 0, 22, 2,
                11, 0, 2,
                1));
    }

    private static void digestOfStations() {
        CHECK.promise(38, "if there are STATIONS, clear() of 1 and 2; 1 if isSound(), otherwise 0.");
        Wavesale w = Sales.prepared(1, 1, 0);
        for (int k = 0; k < 3; k++) {
            w.station(0, 5);
        }
        CHECK.same("three of a region", w.digest(), wrapped(
                0, 0, 1, 0, 3, 5, 1, 10, 0, 0, 0, 0, 0, 0, 0, 0, 0,
                1, 1, 10, 10, 0, -1, 0, 0, 3, 1, -1,
                3, 1,
                1));
    }

    private static void digestChangesNothing() {
        CHECK.promise(38, "Computes a checksum.");
        CHECK.promise(38, "Returns d.");
        for (int stage = 0; stage <= 3; stage++) {
            Wavesale w = Sales.inStage(stage);
            long before = w.digest();
            for (int k = 0; k < 17; k++) {
                w.sale(k);
            }
            w.isSound();
            w.worth(3);
            w.objects(3, 2);
            w.wouldPay(0, 2);
            w.most(0, 0);
            w.contradicts(0);
            w.packs(1, 1);
            w.channel(1, 1, 0);
            w.clear(1);
            w.chart(0);
            w.holder(0, 0);
            CHECK.same("behind what was asked in stage " + stage, w.digest(), before);
            CHECK.isTrue("another one in another stage", before != Sales.inStage((stage + 1) % 4).digest());
        }
    }

    private static void refusedCallsChangeNothing() {
        CHECK.part(6, "A method that throws an exception changes nothing.");
        for (int stage = 0; stage <= 3; stage++) {
            Wavesale w = Sales.inStage(stage);
            w.knock();
            CHECK.noState("what belongs to another stage", w, () -> stageCall(w));
            CHECK.same("refused", w.sale(16), 1);
        }
        CHECK.part(6, "If several exceptions apply, the one that is named first is thrown.");
        Wavesale w = Sales.inStage(3);
        CHECK.noPlace("nobody, 6, and the wrong stage", w, () -> w.wish(2, 0, 6));
        CHECK.noArgument("6, and the wrong stage", w, () -> w.wish(0, 0, 6));
        CHECK.noState("the wrong stage", w, () -> w.wish(0, 0, 5));
        CHECK.noPlace("nobody, no code, and the wrong stage", w, () -> w.offer(2, -1, -1));
        CHECK.noArgument("no code, and the wrong stage", w, () -> w.offer(0, -1, -1));
        CHECK.noState("the wrong stage", w, () -> w.offer(0, 1, 10));
        CHECK.noPlace("no station, and no set", w, () -> w.channel(-1, 0, 1));
        CHECK.noArgument("no set", w, () -> w.channel(-1, 1, 0));
    }

    /** A call that belongs to another stage than the sale is in. */
    private static Object stageCall(Wavesale w) {
        return w.sale(0) == 2 ? w.waive(0) : w.settle(0);
    }
}
