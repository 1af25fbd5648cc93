/** Promises 1 to 7 and part 1, sentence by sentence: the last value that is let, and the first that is not. */
public final class PreparedBoundsTest {
    private static final Check CHECK = new Check("PreparedBoundsTest");

    public static void main(String[] args) {
        newObject();
        waysOfCounting();
        ordersOfNumbers();
        divisions();
        callsOfAnObject();
        regionNumbers();
        regionSupply();
        regionPoints();
        regionPrice();
        regionStages();
        borderRegions();
        borderWithItself();
        borderStages();
        borderPairs();
        bidderNumbers();
        bidderBudget();
        bidderEligible();
        bidderCredit();
        bidderGroup();
        bidderWaivers();
        bidderStages();
        rulesCap();
        rulesStages();
        rulesBefore();
        capAtFirst();
        stepBounds();
        stepStages();
        stepBefore();
        openOfNothing();
        openStages();
        openSum();
        stages();
        CHECK.end();
    }

    private static void newObject() {
        CHECK.promise(1, "Creates a SALE without REGIONS.");
        Wavesale w = new Wavesale();
        CHECK.same("regions", w.sale(2), 0);
        CHECK.noPlace("what the first region has", w, () -> w.ofRegion(0, 0));
        CHECK.noPlace("the chart of the first region", w, () -> w.chart(0));
        CHECK.noPlace("a station in the first region", w, () -> w.station(0, 1));
        CHECK.noPlace("what the first bidder has", w, () -> w.ofBidder(0, 0));
        CHECK.noPlace("who wins", w, () -> w.wins(0));
        CHECK.same("stage", w.sale(0), 0);
        CHECK.same("its number", w.region(1, 1, 1), 0);
    }

    private static void waysOfCounting() {
        CHECK.part(0, "A set is the sum of 2^k for each number k.");
        Wavesale w = Sales.prepared(5, 1, 6);
        w.border(0, 4);
        w.border(0, 1);
        CHECK.same("neighbours 1 and 4", w.ofRegion(0, 7), 2 + 16);
        CHECK.same("all six bidders", w.worth(63), 0);
        CHECK.noArgument("a seventh", w, () -> w.worth(64));
        CHECK.part(0, "NONE is -1.");
        CHECK.same("nobody's block", w.holder(0, 0), -1);
        CHECK.same("nothing wins", w.wins(0), -1);
        CHECK.same("no number", w.most(0, 0), -1);
        CHECK.same("no round", w.contradicts(0), -1);
        w.station(0, 1);
        CHECK.same("no channel", w.channel(0, 1, 0), -1);
    }

    private static void ordersOfNumbers() {
        CHECK.part(0, "X by X is by rising numbers.");
        Wavesale w = Sales.opened(2, 1, 2);
        w.wish(0, 0, 1);
        w.wish(1, 0, 1);
        w.close(1);
        w.wish(0, 0, 0);
        w.wish(1, 0, 0);
        w.close(1);
        CHECK.same("the first goes, as both would", w.ofBidder(0, 5), 0);
        CHECK.same("so the second stays", w.ofBidder(1, 5), 1);
        CHECK.part(0, "Where one of several is taken and nothing else is said, it is that with the smallest number.");
        Wavesale v = Sales.prepared(1, 1, 1);
        v.station(0, 5);
        v.station(0, 5);
        CHECK.same("one of two is bought", v.clear(1), 1);
        Wavesale u = Sales.told(1, 5, 2);
        u.offer(0, 1, 50);
        u.offer(1, 1, 50);
        u.settle(0);
        CHECK.same("turns 0 and 2 to 5 are as good", u.chart(0), "0,1,-,-,-");
    }

    private static void divisions() {
        CHECK.part(0, "What is whole is divided towards 0.");
        Wavesale w = new Wavesale();
        w.region(1, 1, 19);
        w.bidder(999, 2, 30, 0);
        w.bidder(999, 9, 0, 0);
        w.open();
        w.wish(0, 0, 1);
        w.wish(1, 0, 1);
        w.close(1);
        CHECK.same("a rise of 1.9", w.ofRegion(0, 3), 20);
        CHECK.same("1.25 points", w.ofBidder(0, 1), 1);
        CHECK.same("1.25 points of 9", w.ofBidder(1, 1), 1);
        w.wish(1, 0, 0);
        w.close(1);
        w.offer(0, 1, 29);
        w.settle(0);
        CHECK.same("due of 20.3", w.pays(0, true), 20);
        CHECK.same("a deposit of 2.9", w.fail(0), 2);
    }

    private static void callsOfAnObject() {
        CHECK.part(0, "An object is used for at most 512 calls after it has been made");
        Wavesale w = new Wavesale();
        for (int call = 1; call <= 511; call++) {
            w.knock();
        }
        CHECK.same("the 512th call", w.knock(), 512);
    }

    private static void regionNumbers() {
        CHECK.part(1, "REGIONS: at most 5, numbered from 0");
        Wavesale w = new Wavesale();
        for (int k = 0; k < 5; k++) {
            CHECK.same("number", w.region(1 + k, 9 - k, 999 - k), k);
        }
        for (int k = 0; k < 5; k++) {
            CHECK.same("supply of " + k, w.ofRegion(k, 0), 1 + k);
            CHECK.same("points of " + k, w.ofRegion(k, 1), 9 - k);
            CHECK.same("start price of " + k, w.ofRegion(k, 2), 999 - k);
        }
        CHECK.promise(2, "Throws `IllegalStateException` if it is not STAGE 0, or there are 5");
        CHECK.noState("the sixth", w, () -> w.region(1, 1, 1));
        CHECK.noArgument("the sixth, without supply", w, () -> w.region(0, 1, 1));
        CHECK.noArgument("the sixth, for nothing", w, () -> w.region(1, 1, 0));
        CHECK.same("regions", w.sale(2), 5);
        CHECK.promise(2, "Returns its number.");
        Wavesale other = new Wavesale();
        CHECK.same("the first", other.region(5, 1, 1), 0);
        CHECK.noArgument("one that is refused", other, () -> other.region(6, 1, 1));
        CHECK.same("the second, all the same", other.region(5, 1, 1), 1);
    }

    private static void regionSupply() {
        CHECK.promise(2, "Throws `IllegalArgumentException` if supply is not 1 to 5, points not 1 to 9, or price not 1 to 999");
        Wavesale w = new Wavesale();
        CHECK.part(1, "a SUPPLY of BLOCKS (1 to 5)");
        CHECK.noArgument("supply 0", w, () -> w.region(0, 1, 1));
        CHECK.noArgument("supply 6", w, () -> w.region(6, 1, 1));
        for (int far : Sales.FAR_OFF) {
            CHECK.noArgument("supply " + far, w, () -> w.region(far, 1, 1));
        }
        w.region(1, 1, 1);
        w.region(5, 1, 1);
        CHECK.same("supply 1", w.ofRegion(0, 0), 1);
        CHECK.same("blocks of it", w.chart(0), "-");
        CHECK.same("supply 5", w.ofRegion(1, 0), 5);
        CHECK.same("blocks of that", w.chart(1), "-,-,-,-,-");
    }

    private static void regionPoints() {
        CHECK.part(1, "POINTS of one BLOCK (1 to 9)");
        Wavesale w = new Wavesale();
        CHECK.noArgument("points 0", w, () -> w.region(1, 0, 1));
        CHECK.noArgument("points 10", w, () -> w.region(1, 10, 1));
        for (int far : Sales.FAR_OFF) {
            CHECK.noArgument("points " + far, w, () -> w.region(1, far, 1));
        }
        w.region(1, 1, 1);
        w.region(1, 9, 1);
        CHECK.same("points 1", w.ofRegion(0, 1), 1);
        CHECK.same("points 9", w.ofRegion(1, 1), 9);
    }

    private static void regionPrice() {
        CHECK.part(1, "a START price of one BLOCK (1 to 999)");
        Wavesale w = new Wavesale();
        CHECK.noArgument("price 0", w, () -> w.region(1, 1, 0));
        CHECK.noArgument("price 1000", w, () -> w.region(1, 1, 1000));
        for (int far : Sales.FAR_OFF) {
            CHECK.noArgument("price " + far, w, () -> w.region(1, 1, far));
        }
        w.region(1, 1, 1);
        w.region(1, 1, 999);
        CHECK.same("price 1", w.ofRegion(0, 2), 1);
        CHECK.same("price 999", w.ofRegion(1, 2), 999);
    }

    private static void regionStages() {
        CHECK.promise(2, "Throws `IllegalStateException` if it is not STAGE 0, or there are 5");
        for (int stage = 1; stage <= 3; stage++) {
            Wavesale w = Sales.inStage(stage);
            CHECK.noState("stage " + stage, w, () -> w.region(1, 1, 1));
            CHECK.noArgument("no supply in stage " + stage, w, () -> w.region(0, 1, 1));
            CHECK.noArgument("too many points in stage " + stage, w, () -> w.region(1, 10, 1));
        }
        CHECK.same("stage 0", Sales.inStage(0).region(1, 1, 1), 2);
    }

    private static void borderRegions() {
        CHECK.promise(3, "Throws `IndexOutOfBoundsException` if there is no such REGION, of both");
        Wavesale none = new Wavesale();
        CHECK.noPlace("without regions", none, () -> none.border(0, 0));
        CHECK.noPlace("two without regions", none, () -> none.border(0, 1));
        for (int stage = 0; stage <= 3; stage++) {
            Wavesale w = Sales.inStage(stage);
            for (int far : new int[] {2, -1, Integer.MIN_VALUE, Integer.MAX_VALUE}) {
                CHECK.noPlace("the first, " + far, w, () -> w.border(far, 0));
                CHECK.noPlace("the second, " + far, w, () -> w.border(0, far));
                CHECK.noPlace("both, " + far, w, () -> w.border(far, far));
            }
        }
        Wavesale full = Sales.prepared(5, 1, 1);
        CHECK.noPlace("the sixth of five", full, () -> full.border(5, 0));
        CHECK.noPlace("to the sixth of five", full, () -> full.border(4, 5));
        CHECK.same("the last ones", full.border(4, 3), 1);
    }

    private static void borderWithItself() {
        CHECK.promise(3, "Throws `IllegalArgumentException` if both are the same");
        for (int stage = 0; stage <= 3; stage++) {
            Wavesale w = Sales.inStage(stage);
            CHECK.noArgument("the first in stage " + stage, w, () -> w.border(0, 0));
            CHECK.noArgument("the last in stage " + stage, w, () -> w.border(1, 1));
        }
    }

    private static void borderStages() {
        CHECK.promise(3, "Throws `IllegalStateException` if it is not STAGE 0");
        for (int stage = 1; stage <= 3; stage++) {
            Wavesale w = Sales.inStage(stage);
            CHECK.noState("stage " + stage, w, () -> w.border(0, 1));
            CHECK.same("neighbours", w.ofRegion(0, 7), 0);
        }
        CHECK.same("stage 0", Sales.inStage(0).border(0, 1), 1);
        Wavesale told = Sales.prepared(2, 1, 1);
        told.border(0, 1);
        told.open();
        CHECK.noState("a pair that is told already", told, () -> told.border(0, 1));
        CHECK.same("neighbours as they were", told.ofRegion(1, 7), 1);
    }

    private static void borderPairs() {
        CHECK.promise(3, "Returns how many pairs there are then (two REGIONS are one pair, however often and either way round they are told).");
        Wavesale w = Sales.prepared(5, 1, 1);
        int pairs = 0;
        for (int one = 0; one < 5; one++) {
            for (int two = one + 1; two < 5; two++) {
                pairs++;
                CHECK.same(one + " and " + two, w.border(one, two), pairs);
                CHECK.same("once more", w.border(one, two), pairs);
                CHECK.same("the other way round", w.border(two, one), pairs);
            }
        }
        CHECK.same("all of five", pairs, 10);
        for (int region = 0; region < 5; region++) {
            CHECK.same("all others", w.ofRegion(region, 7), 31 - (1 << region));
        }
        CHECK.part(1, "NEIGHBOURS are told by pairs of REGIONS.");
        Wavesale two = Sales.prepared(2, 1, 1);
        CHECK.same("none are told", two.ofRegion(0, 7) + two.ofRegion(1, 7), 0);
        two.border(1, 0);
        CHECK.same("of the first", two.ofRegion(0, 7), 2);
        CHECK.same("of the second", two.ofRegion(1, 7), 1);
    }

    private static void bidderNumbers() {
        CHECK.part(1, "at most 6, numbered from 0, each with a BUDGET");
        Wavesale w = new Wavesale();
        for (int k = 0; k < 6; k++) {
            CHECK.same("number", w.bidder(99999 - k, 200 - k, 30 - k, k % 4), k);
        }
        for (int k = 0; k < 6; k++) {
            CHECK.same("budget of " + k, w.ofBidder(k, 0), 99999 - k);
            CHECK.same("points of " + k, w.ofBidder(k, 1), 200 - k);
            CHECK.same("credit of " + k, w.ofBidder(k, 2), 30 - k);
            CHECK.same("group of " + k, w.ofBidder(k, 3), k % 4);
        }
        CHECK.promise(4, "Throws `IllegalStateException` if it is not STAGE 0, or there are 6");
        CHECK.noState("the seventh", w, () -> w.bidder(0, 1, 0, 0));
        CHECK.noArgument("the seventh, with no group", w, () -> w.bidder(0, 1, 0, 4));
        CHECK.noArgument("the seventh, for no points", w, () -> w.bidder(0, 0, 0, 0));
        CHECK.same("bidders", w.sale(3), 6);
        CHECK.promise(4, "Returns its number.");
        Wavesale other = new Wavesale();
        CHECK.same("the first", other.bidder(0, 1, 0, 0), 0);
        CHECK.noArgument("one that is refused", other, () -> other.bidder(-1, 1, 0, 0));
        CHECK.same("the second, all the same", other.bidder(0, 1, 0, 0), 1);
    }

    private static void bidderBudget() {
        CHECK.promise(4, "Throws `IllegalArgumentException` if budget is not 0 to 99999, eligible not 1 to 200, credit not 0 to 30, or group not 0 to 3");
        Wavesale w = new Wavesale();
        CHECK.part(1, "a BUDGET (0 to 99999)");
        CHECK.noArgument("budget 100000", w, () -> w.bidder(100000, 1, 0, 0));
        for (int far : Sales.FAR_OFF) {
            CHECK.noArgument("budget " + far, w, () -> w.bidder(far, 1, 0, 0));
        }
        w.bidder(0, 1, 0, 0);
        w.bidder(99999, 1, 0, 0);
        CHECK.same("budget 0", w.ofBidder(0, 0), 0);
        CHECK.same("budget 99999", w.ofBidder(1, 0), 99999);
    }

    private static void bidderEligible() {
        CHECK.part(1, "ELIGIBLE points (1 to 200)");
        Wavesale w = new Wavesale();
        CHECK.noArgument("0 points", w, () -> w.bidder(0, 0, 0, 0));
        CHECK.noArgument("201 points", w, () -> w.bidder(0, 201, 0, 0));
        for (int far : Sales.FAR_OFF) {
            CHECK.noArgument(far + " points", w, () -> w.bidder(0, far, 0, 0));
        }
        w.bidder(0, 1, 0, 0);
        w.bidder(0, 200, 0, 0);
        CHECK.same("1 point", w.ofBidder(0, 1), 1);
        CHECK.same("200 points", w.ofBidder(1, 1), 200);
    }

    private static void bidderCredit() {
        CHECK.part(1, "CREDIT (0 to 30, in hundredths)");
        Wavesale w = new Wavesale();
        CHECK.noArgument("credit 31", w, () -> w.bidder(0, 1, 31, 0));
        for (int far : Sales.FAR_OFF) {
            CHECK.noArgument("credit " + far, w, () -> w.bidder(0, 1, far, 0));
        }
        w.bidder(0, 1, 0, 0);
        w.bidder(0, 1, 30, 0);
        CHECK.same("credit 0", w.ofBidder(0, 2), 0);
        CHECK.same("credit 30", w.ofBidder(1, 2), 30);
    }

    private static void bidderGroup() {
        CHECK.part(1, "a GROUP (0 none, 1 to 3)");
        Wavesale w = new Wavesale();
        CHECK.noArgument("group 4", w, () -> w.bidder(0, 1, 0, 4));
        for (int far : Sales.FAR_OFF) {
            CHECK.noArgument("group " + far, w, () -> w.bidder(0, 1, 0, far));
        }
        w.bidder(0, 1, 0, 0);
        w.bidder(0, 1, 0, 3);
        CHECK.same("group 0", w.ofBidder(0, 3), 0);
        CHECK.same("group 3", w.ofBidder(1, 3), 3);
    }

    private static void bidderWaivers() {
        CHECK.part(1, "2 WAIVERS at first");
        Wavesale w = Sales.prepared(1, 1, 6);
        CHECK.same("of the first", w.ofBidder(0, 4), 2);
        CHECK.same("of the last", w.ofBidder(5, 4), 2);
        w.open();
        CHECK.same("of the last, behind the opening", w.ofBidder(5, 4), 2);
    }

    private static void bidderStages() {
        CHECK.promise(4, "Throws `IllegalStateException` if it is not STAGE 0, or there are 6");
        for (int stage = 1; stage <= 3; stage++) {
            Wavesale w = Sales.inStage(stage);
            CHECK.noState("stage " + stage, w, () -> w.bidder(0, 1, 0, 0));
            CHECK.noArgument("no budget in stage " + stage, w, () -> w.bidder(-1, 1, 0, 0));
            CHECK.noArgument("credit 31 in stage " + stage, w, () -> w.bidder(0, 1, 31, 0));
        }
        CHECK.same("stage 0", Sales.inStage(0).bidder(0, 1, 0, 0), 2);
    }

    private static void rulesCap() {
        CHECK.promise(5, "Throws `IllegalArgumentException` if cap is not 1 to 5");
        for (int stage = 0; stage <= 3; stage++) {
            Wavesale w = Sales.inStage(stage);
            CHECK.noArgument("cap 0 in stage " + stage, w, () -> w.rules(0, false));
            CHECK.noArgument("cap 6 in stage " + stage, w, () -> w.rules(6, false));
            for (int far : Sales.FAR_OFF) {
                CHECK.noArgument("cap " + far + " in stage " + stage, w, () -> w.rules(far, false));
            }
            CHECK.same("the rule is on still", w.sale(6), 1);
        }
        Wavesale w = new Wavesale();
        w.rules(1, true);
        CHECK.same("cap 1", w.sale(5), 1);
        w.rules(5, true);
        CHECK.same("cap 5", w.sale(5), 5);
    }

    private static void rulesStages() {
        CHECK.promise(5, "Throws `IllegalStateException` if it is not STAGE 0");
        for (int stage = 1; stage <= 3; stage++) {
            Wavesale w = Sales.inStage(stage);
            CHECK.noState("stage " + stage, w, () -> w.rules(1, false));
            CHECK.noState("what it is already, in stage " + stage, w, () -> w.rules(5, true));
        }
        CHECK.part(1, "REGIONS, NEIGHBOURS, BIDDERS, CAP are told in STAGE 0 alone.");
        Wavesale w = Sales.inStage(0);
        CHECK.same("a cap", w.rules(3, true), 5);
        w.open();
        CHECK.noState("a cap of later", w, () -> w.rules(4, true));
        CHECK.noState("a region of later", w, () -> w.region(1, 1, 1));
        CHECK.noState("a border of later", w, () -> w.border(0, 1));
        CHECK.noState("a bidder of later", w, () -> w.bidder(1, 1, 1, 1));
        CHECK.same("cap", w.sale(5), 3);
    }

    private static void rulesBefore() {
        CHECK.promise(5, "Returns CAP before.");
        Wavesale w = new Wavesale();
        int before = 5;
        for (int cap = 1; cap <= 5; cap++) {
            CHECK.same("cap before " + cap, w.rules(cap, cap % 2 == 0), before);
            CHECK.same("cap " + cap, w.sale(5), cap);
            CHECK.same("the rule with " + cap, w.sale(6), cap % 2 == 0 ? 1 : 0);
            before = cap;
        }
        CHECK.same("the same again", w.rules(5, true), 5);
    }

    private static void capAtFirst() {
        CHECK.part(1, "The CAP (1 to 5; 5 at first)");
        Wavesale w = new Wavesale();
        CHECK.same("cap", w.sale(5), 5);
        w.region(5, 1, 1);
        w.bidder(0, 9, 0, 0);
        w.open();
        CHECK.same("as many as that", w.wish(0, 0, 5), 5);
        CHECK.part(2, "if the RULE is on (it is, at first; told in STAGE 0)");
        CHECK.same("the rule", new Wavesale().sale(6), 1);
    }

    private static void stepBounds() {
        CHECK.promise(6, "Throws `IllegalArgumentException` if step is not 1 to 20");
        for (int stage = 0; stage <= 3; stage++) {
            Wavesale w = Sales.inStage(stage);
            CHECK.noArgument("step 0 in stage " + stage, w, () -> w.step(0));
            CHECK.noArgument("step 21 in stage " + stage, w, () -> w.step(21));
            for (int far : Sales.FAR_OFF) {
                CHECK.noArgument("step " + far + " in stage " + stage, w, () -> w.step(far));
            }
        }
        CHECK.part(2, "STEP is 1 to 20, 10 at first");
        Wavesale w = new Wavesale();
        CHECK.same("at first", w.sale(7), 10);
        w.step(1);
        CHECK.same("step 1", w.sale(7), 1);
        w.step(20);
        CHECK.same("step 20", w.sale(7), 20);
    }

    private static void stepStages() {
        CHECK.promise(6, "Throws `IllegalStateException` if STAGE is 2 or 3");
        for (int stage = 0; stage <= 1; stage++) {
            Wavesale w = Sales.inStage(stage);
            CHECK.same("stage " + stage, w.step(20), 10);
        }
        for (int stage = 2; stage <= 3; stage++) {
            Wavesale w = Sales.inStage(stage);
            CHECK.noState("stage " + stage, w, () -> w.step(20));
            CHECK.same("step", w.sale(7), 10);
        }
    }

    private static void stepBefore() {
        CHECK.promise(6, "Returns that before.");
        Wavesale w = new Wavesale();
        int before = 10;
        for (int step = 1; step <= 20; step++) {
            CHECK.same("step before " + step, w.step(step), before);
            before = step;
        }
        CHECK.promise(6, "Tells STEP (for ROUNDS that are CLOSED from now on).");
        Wavesale v = Sales.opened(1, 1, 2);
        v.wish(0, 0, 1);
        v.wish(1, 0, 1);
        v.close(1);
        CHECK.same("by 10", v.ofRegion(0, 3), 11);
        v.step(20);
        CHECK.same("what is closed already stays", v.ofRegion(0, 3), 11);
        v.close(1);
        CHECK.same("by 20", v.ofRegion(0, 3), 13);
        CHECK.same("run anew each by its own", v.anew(1, 0, 0, 1), 13);
    }

    private static void openOfNothing() {
        CHECK.promise(7, "Throws `IllegalStateException` if it is not STAGE 0, or there is no REGION, or no BIDDER");
        Wavesale none = new Wavesale();
        CHECK.noState("neither", none, none::open);
        Wavesale noBidder = Sales.prepared(5, 1, 0);
        CHECK.noState("no bidder", noBidder, noBidder::open);
        Wavesale noRegion = Sales.prepared(0, 1, 6);
        CHECK.noState("no region", noRegion, noRegion::open);
        CHECK.same("stage", noRegion.sale(0), 0);
        CHECK.part(2, "It is OPENED with one REGION and one BIDDER or more: ROUND is 1, PRICES are START prices.");
        Wavesale w = Sales.prepared(1, 1, 1);
        CHECK.same("round ahead of it", w.sale(1), 0);
        CHECK.same("one of each", w.open(), 10);
        CHECK.same("round", w.sale(1), 1);
        CHECK.same("price", w.ofRegion(0, 3), 10);
    }

    private static void openStages() {
        CHECK.promise(7, "Throws `IllegalStateException` if it is not STAGE 0, or there is no REGION, or no BIDDER");
        for (int stage = 1; stage <= 3; stage++) {
            Wavesale w = Sales.inStage(stage);
            CHECK.noState("stage " + stage, w, w::open);
            CHECK.same("stage then", w.sale(0), stage);
        }
    }

    private static void openSum() {
        CHECK.promise(7, "Returns all START prices together.");
        Wavesale least = new Wavesale();
        least.region(5, 9, 1);
        least.bidder(0, 1, 0, 0);
        CHECK.same("the least", least.open(), 1);
        Wavesale most = new Wavesale();
        for (int k = 0; k < 5; k++) {
            most.region(1, 1, 999);
        }
        for (int k = 0; k < 6; k++) {
            most.bidder(0, 1, 0, 0);
        }
        CHECK.same("the most", most.open(), 4995);
    }

    private static void stages() {
        CHECK.part(1, "A SALE is first being prepared (STAGE 0), then its CLOCK runs (1), then PACKAGES are told (2), then it is SETTLED (3).");
        Wavesale w = Sales.prepared(1, 1, 1);
        CHECK.same("first", w.sale(0), 0);
        w.open();
        CHECK.same("then", w.sale(0), 1);
        w.close(1);
        CHECK.same("then", w.sale(0), 2);
        w.settle(0);
        CHECK.same("then", w.sale(0), 3);
        CHECK.part(1, "A BUNDLE is a number of BLOCKS (0 to 5) for each REGION.");
        Wavesale v = new Wavesale();
        for (int k = 0; k < 5; k++) {
            v.region(5, 1, 1);
        }
        v.bidder(0, 200, 0, 0);
        v.open();
        CHECK.same("nothing", v.ofBidder(0, 6), 0);
        for (int k = 0; k < 5; k++) {
            v.wish(0, k, 5);
        }
        CHECK.part(1, "Its code is the sum of that number times 6^REGION.");
        CHECK.same("5 of each", v.ofBidder(0, 6), 7775);
        v.wish(0, 0, 0);
        v.wish(0, 2, 3);
        v.wish(0, 4, 1);
        CHECK.same("0, 5, 3, 5 and 1", v.ofBidder(0, 6), 5 * 6 + 3 * 36 + 5 * 216 + 1296);
    }
}
