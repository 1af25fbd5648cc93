/** Prices, the log, the end of the clock (part 2), and promises 33 to 35, sentence by sentence. */
public final class RoundsBoundsTest {
    private static final Check CHECK = new Check("RoundsBoundsTest");

    public static void main(String[] args) {
        excessAboveNothing();
        priceRises();
        priceAtMost();
        sixtyRounds();
        overWithoutExcess();
        excessInOneRegion();
        logOfNothing();
        logOfEachRound();
        logOfStepsAndWaivers();
        packageOfTheClock();
        packageByTheLastRound();
        greatestPackage();
        mostPlaces();
        mostStages();
        mostOfEachLimit();
        mostOfAllLimits();
        contradictsPlaces();
        contradictsStages();
        contradictsFirstRound();
        contradictsLastRound();
        anewPlaces();
        anewNumbers();
        anewRounds();
        anewOfLastRound();
        anewUntilOver();
        anewWithoutLimits();
        anewByItsOwnRun();
        anewOfTheLastBidder();
        anewByWhatWasWished();
        anewChangesNothing();
        anewAgainAndAgain();
        anewOfSixty();
        CHECK.end();
    }

    /** A clock with one region of one block, which two wish: it rises in each round. */
    private static Wavesale rising(int price) {
        Wavesale w = new Wavesale();
        w.region(1, 1, price);
        w.bidder(900, 9, 0, 0);
        w.bidder(900, 9, 0, 0);
        w.open();
        w.wish(0, 0, 1);
        w.wish(1, 0, 1);
        return w;
    }

    private static void excessAboveNothing() {
        CHECK.part(2, "(d) EXCESS of a REGION is what all HOLD together less SUPPLY.");
        int[] due = {-2, -1, 0, 1, 2, 3};
        for (int many = 0; many <= 5; many++) {
            Wavesale w = Sales.prepared(1, 2, 6);
            w.open();
            for (int k = 0; k < many; k++) {
                w.wish(k, 0, 1);
            }
            int stage = w.close(1);
            CHECK.same(many + " of 2", w.ofRegion(0, 5), due[many]);
            CHECK.same("price with " + due[many], w.ofRegion(0, 3), due[many] > 0 ? 11 : 10);
            CHECK.same("stage with " + due[many], stage, due[many] > 0 ? 1 : 2);
        }
    }

    private static void priceRises() {
        CHECK.part(2, "Where it is above 0, PRICE is PRICE * STEP / 100 more, 1 at least (STEP is 1 to 20, 10 at first), but 9999 at most.");
        int[][] rows = {{1, 1, 2}, {99, 1, 100}, {100, 1, 101}, {199, 1, 200}, {200, 1, 202}, {999, 1, 1008},
            {1, 20, 2}, {4, 20, 5}, {5, 20, 6}, {9, 20, 10}, {10, 20, 12}, {999, 20, 1198},
            {1, 10, 2}, {9, 10, 10}, {10, 10, 11}, {19, 10, 20}, {20, 10, 22}, {999, 10, 1098}};
        for (int[] row : rows) {
            Wavesale w = rising(row[0]);
            w.step(row[1]);
            w.close(1);
            CHECK.same(row[0] + " by " + row[1], w.ofRegion(0, 3), row[2]);
        }
        Wavesale first = rising(200);
        first.close(1);
        CHECK.same("by 10 at first", first.ofRegion(0, 3), 220);
    }

    private static void closeBySteps(Wavesale w, int... steps) {
        for (int step : steps) {
            w.step(step);
            w.close(1);
        }
    }

    private static void priceAtMost() {
        CHECK.part(2, "but 9999 at most");
        Wavesale just = rising(999);
        closeBySteps(just, 2, 16, 20, 19, 19, 20, 19, 20, 20, 19, 19, 20, 19, 20);
        CHECK.same("just 9999", just.ofRegion(0, 3), 9999);
        just.close(1);
        CHECK.same("behind another round", just.ofRegion(0, 3), 9999);
        CHECK.same("there is excess still", just.sale(0), 1);
        CHECK.same("run anew", just.anew(15, 0, 0, 1), 9999);
        CHECK.isTrue("sound", just.isSound());
        Wavesale below = rising(999);
        closeBySteps(below, 2, 16, 20, 19, 19, 20, 17, 20, 20, 19, 20, 20, 20, 20);
        CHECK.same("one below", below.ofRegion(0, 3), 9998);
        closeBySteps(below, 1);
        CHECK.same("99 more", below.ofRegion(0, 3), 9999);
        Wavesale above = rising(999);
        closeBySteps(above, 2, 16, 20, 19, 19, 20, 18, 18, 20, 20, 20, 20, 20, 20);
        CHECK.same("what were 10000", above.ofRegion(0, 3), 9999);
    }

    private static Wavesale closed(int rounds) {
        Wavesale w = rising(1);
        w.step(1);
        for (int k = 0; k < rounds; k++) {
            w.close(1);
        }
        return w;
    }

    private static void sixtyRounds() {
        CHECK.part(2, "or ROUND is 60, the CLOCK is over (STAGE 2)");
        Wavesale w = closed(59);
        CHECK.same("stage behind 59", w.sale(0), 1);
        CHECK.same("round 60 is on", w.sale(1), 60);
        CHECK.same("a wish in it", w.wish(0, 0, 1), 1);
        CHECK.same("a waiver in it", w.waive(0), 1);
        CHECK.same("closed", w.close(1), 2);
        CHECK.same("the last round", w.sale(1), 60);
        CHECK.same("rounds of the log", w.sale(15), 60);
        CHECK.same("price on", w.priceIn(60, 0), 60);
        CHECK.same("it has risen all the same", w.ofRegion(0, 3), 61);
        CHECK.same("excess", w.ofRegion(0, 5), 1);
        CHECK.same("both have a package", w.ofBidder(0, 8) + w.ofBidder(1, 8), 2);
        CHECK.same("one of them wins", w.sale(9), 1);
        CHECK.noState("a 61st", w, () -> w.close(1));
        CHECK.isTrue("sound", w.isSound());
    }

    private static void overWithoutExcess() {
        CHECK.part(2, "If it is above 0 in no REGION, or ROUND is 60, the CLOCK is over (STAGE 2); otherwise ROUND is 1 more.");
        Wavesale w = rising(10);
        CHECK.same("with excess", w.close(1), 1);
        CHECK.same("round is 1 more", w.sale(1), 2);
        w.wish(0, 0, 0);
        CHECK.same("without", w.close(1), 2);
        CHECK.same("the last round", w.sale(1), 2);
        CHECK.same("price as it was", w.ofRegion(0, 3), 11);
    }

    private static void excessInOneRegion() {
        CHECK.part(2, "If it is above 0 in no REGION");
        for (int region = 0; region < 5; region++) {
            Wavesale w = Sales.opened(5, 1, 2);
            for (int bidder = 0; bidder < 2; bidder++) {
                w.wish(bidder, region, 1);
            }
            w.wish(0, (region + 1) % 5, 1);
            CHECK.same("in region " + region + " alone", w.close(1), 1);
            for (int k = 0; k < 5; k++) {
                CHECK.same("price of " + k, w.ofRegion(k, 3), k == region ? 11 : 10);
            }
        }
    }

    private static void logOfNothing() {
        CHECK.part(2, "The LOG has for each ROUND that was CLOSED");
        for (int stage = 0; stage <= 1; stage++) {
            Wavesale w = Sales.inStage(stage);
            CHECK.same("rounds in stage " + stage, w.sale(15), 0);
            CHECK.noPlace("price in stage " + stage, w, () -> w.priceIn(1, 0));
            CHECK.noPlace("wishes in stage " + stage, w, () -> w.codeIn(1, 0, false));
            CHECK.noPlace("run anew in stage " + stage, w, () -> w.anew(1, 0, 0, 0));
        }
    }

    private static void logOfEachRound() {
        CHECK.part(2, "PRICES as it was on, what each WISHED as it was CLOSED (ahead of (a))");
        Wavesale w = rising(10);
        w.wish(1, 0, 0);
        w.wish(1, 0, 1);
        w.close(1);
        w.close(1);
        w.wish(0, 0, 0);
        w.close(1);
        int[] prices = {10, 11, 12};
        int[] wished = {1, 1, 0};
        for (int round = 1; round <= 3; round++) {
            CHECK.same("price in " + round, w.priceIn(round, 0), prices[round - 1]);
            CHECK.same("wished in " + round, w.codeIn(round, 0, false), wished[round - 1]);
            CHECK.same("held behind " + round, w.codeIn(round, 0, true), wished[round - 1]);
            CHECK.same("of the other in " + round, w.codeIn(round, 1, true), 1);
        }
    }

    private static void logOfStepsAndWaivers() {
        CHECK.part(2, "STEP, PRICES as it was on, what each WISHED as it was CLOSED (ahead of (a)), who WAIVED, and what each HELD behind it.");
        Wavesale w = rising(100);
        closeBySteps(w, 20, 1, 10);
        CHECK.same("120, 121 and 133", w.ofRegion(0, 3), 133);
        CHECK.same("run anew by the same steps", w.anew(3, 0, 0, 1), 133);
        CHECK.same("the first two of them", w.anew(3, 0, 0, 0), 121);
        CHECK.same("the first of them", w.anew(2, 1, 0, 0), 120);
    }

    private static void packageOfTheClock() {
        CHECK.part(2, "As the CLOCK is over, each BIDDER that HOLDS anything has a PACKAGE 0: that BUNDLE, with PRICES of the last ROUND (as it was on) times numbers together as its AMOUNT.");
        Wavesale w = Sales.prepared(5, 5, 6);
        w.open();
        w.wish(5, 4, 1);
        w.wish(0, 0, 1);
        w.close(1);
        for (int k = 1; k < 5; k++) {
            int none = k;
            CHECK.same("none of " + k, w.ofBidder(k, 8), 0);
            CHECK.noPlace("package 0 of " + k, w, () -> w.ofPackage(none, 0, true));
        }
        CHECK.same("one of one block", w.ofBidder(0, 8), 1);
        CHECK.same("its code", w.ofPackage(0, 0, false), 1);
        CHECK.same("its amount", w.ofPackage(0, 0, true), 10);
        CHECK.same("of the last region", w.ofPackage(5, 0, false), 1296);
        CHECK.same("winners", w.sale(9), 2);
        Wavesale nobody = Sales.told(5, 5, 6);
        CHECK.same("of nobody: no winners", nobody.sale(9), 0);
        CHECK.same("and no worth", nobody.sale(10), 0);
    }

    private static void packageByTheLastRound() {
        CHECK.part(2, "with PRICES of the last ROUND (as it was on) times numbers together as its AMOUNT");
        Wavesale w = closed(60);
        CHECK.same("price now", w.ofRegion(0, 3), 61);
        CHECK.same("amount", w.ofPackage(0, 0, true), 60);
        Wavesale two = rising(100);
        two.close(1);
        two.wish(0, 0, 0);
        two.close(1);
        CHECK.same("not by the start price", two.ofPackage(1, 0, true), 110);
    }

    private static void greatestPackage() {
        CHECK.part(2, "with PRICES of the last ROUND (as it was on) times numbers together as its AMOUNT");
        Wavesale w = new Wavesale();
        for (int k = 0; k < 5; k++) {
            w.region(5, 8, 999);
        }
        w.bidder(0, 200, 30, 0);
        w.bidder(99999, 200, 30, 0);
        w.step(20);
        w.open();
        for (int k = 0; k < 10; k++) {
            w.wish(k / 5, k % 5, 5);
        }
        w.close(9);
        w.close(6);
        CHECK.same("all prices", w.ofRegion(0, 3) + w.ofRegion(4, 3), 2 * 9999);
        for (int k = 0; k < 5; k++) {
            w.wish(1, k, 0);
        }
        w.close(1);
        CHECK.same("amount of all blocks, above any budget", w.ofPackage(0, 0, true), 249975);
        CHECK.same("its code", w.ofPackage(0, 0, false), 7775);
        CHECK.same("worth", w.sale(10), 249975);
        CHECK.same("run anew", w.anew(15, 0, 0, 5), 5 * 9999);
        w.settle(0);
        CHECK.same("due", w.pays(0, true), 174982);
        CHECK.same("chart", w.chart(4), "0,0,0,0,0");
        CHECK.same("deposit", w.fail(0), 24997);
    }

    private static void mostPlaces() {
        CHECK.promise(33, "Throws `IndexOutOfBoundsException` if there is no such BIDDER, or REGION");
        Wavesale none = new Wavesale();
        CHECK.noPlace("of nobody", none, () -> none.most(0, 0));
        for (int stage = 0; stage <= 3; stage++) {
            Wavesale w = Sales.inStage(stage);
            for (int far : new int[] {2, -1, Integer.MIN_VALUE, Integer.MAX_VALUE}) {
                CHECK.noPlace("bidder " + far + " in stage " + stage, w, () -> w.most(far, 0));
                CHECK.noPlace("region " + far + " in stage " + stage, w, () -> w.most(0, far));
            }
        }
        Wavesale full = Sales.opened(5, 3, 6);
        CHECK.same("the last ones", full.most(5, 4), 3);
        CHECK.noPlace("the seventh bidder", full, () -> full.most(6, 0));
        CHECK.noPlace("the sixth region", full, () -> full.most(0, 5));
    }

    private static void mostStages() {
        CHECK.promise(33, "NONE, if it is not STAGE 1.");
        int[] due = {-1, 2, -1, -1};
        for (int stage = 0; stage <= 3; stage++) {
            CHECK.same("stage " + stage, Sales.inStage(stage).most(0, 0), due[stage]);
        }
    }

    private static void mostOfEachLimit() {
        CHECK.promise(33, "Returns the greatest number that it could WISH for that REGION now (what it WISHES of others staying); NONE, if it is not STAGE 1.");
        for (int limit = 1; limit <= 5; limit++) {
            CHECK.same("supply " + limit, Sales.opened(1, limit, 1).most(0, 0), limit);
            Wavesale capped = Sales.prepared(1, 5, 1);
            capped.rules(limit, true);
            capped.open();
            CHECK.same("cap " + limit, capped.most(0, 0), limit);
            Wavesale poor = new Wavesale();
            poor.region(5, 3, 1);
            poor.bidder(0, 3 * limit, 0, 0);
            poor.bidder(0, 3 * limit - 1, 0, 0);
            poor.open();
            CHECK.same("points for " + limit, poor.most(0, 0), limit);
            CHECK.same("one point less", poor.most(1, 0), limit - 1);
            Wavesale allied = Sales.prepared(1, 5, 0);
            allied.bidder(0, 9, 0, 1);
            allied.bidder(0, 9, 0, 1);
            allied.open();
            allied.wish(0, 0, limit);
            CHECK.same(limit + " of its group", allied.most(1, 0), 5 - limit);
            CHECK.same("of the other one", allied.most(0, 0), 5);
        }
    }

    private static void mostOfAllLimits() {
        CHECK.promise(33, "(what it WISHES of others staying)");
        Wavesale w = Sales.prepared(2, 5, 0);
        w.bidder(0, 7, 0, 0);
        w.bidder(0, 7, 0, 0);
        w.open();
        w.wish(0, 1, 4);
        CHECK.same("3 points are left", w.most(0, 0), 3);
        CHECK.same("it can wish for these", w.wish(0, 0, 3), 7);
        CHECK.noState("but no more", w, () -> w.wish(0, 0, 4));
        CHECK.same("nothing is left", w.most(0, 0), 3);
        w.wish(0, 0, 0);
        w.wish(0, 1, 5);
        CHECK.same("2 points are left", w.most(0, 0), 2);
        CHECK.same("no group is no group", w.most(1, 1), 5);
        long before = w.digest();
        w.most(0, 0);
        CHECK.same("nothing is changed", w.digest(), before);
    }

    private static void contradictsPlaces() {
        CHECK.promise(34, "Throws `IndexOutOfBoundsException` if there is no such BIDDER");
        Wavesale none = new Wavesale();
        CHECK.noPlace("of nobody", none, () -> none.contradicts(0));
        for (int stage = 0; stage <= 3; stage++) {
            Wavesale w = Sales.inStage(stage);
            for (int far : new int[] {2, -1, Integer.MIN_VALUE, Integer.MAX_VALUE}) {
                CHECK.noPlace("bidder " + far + " in stage " + stage, w, () -> w.contradicts(far));
            }
        }
        Wavesale full = Sales.opened(1, 1, 6);
        CHECK.same("the last", full.contradicts(5), -1);
        CHECK.noPlace("the seventh", full, () -> full.contradicts(6));
    }

    private static Wavesale risenTwice() {
        Wavesale w = Sales.opened(2, 1, 3);
        w.wish(0, 0, 1);
        w.waive(0);
        w.wish(1, 1, 1);
        w.wish(2, 1, 1);
        w.close(1);
        w.waive(0);
        w.close(1);
        return w;
    }

    private static void contradictsStages() {
        CHECK.promise(34, "NONE without one, and if it is not STAGE 1.");
        for (int stage = 0; stage <= 3; stage++) {
            CHECK.same("stage " + stage, Sales.inStage(stage).contradicts(0), -1);
        }
        Wavesale w = risenTwice();
        w.wish(0, 1, 1);
        CHECK.same("stage 1", w.contradicts(0), 1);
        w.wish(1, 1, 0);
        w.wish(2, 1, 0);
        w.close(1);
        CHECK.same("the clock is over", w.sale(0), 2);
        CHECK.same("stage 2", w.contradicts(0), -1);
        w.settle(0);
        CHECK.same("stage 3", w.contradicts(0), -1);
    }

    private static void contradictsFirstRound() {
        CHECK.promise(34, "Returns the first ROUND of the LOG with which it CONTRADICTS itself by what it WISHES now, whether the RULE is on or not");
        Wavesale w = risenTwice();
        CHECK.same("by what it holds", w.contradicts(0), -1);
        w.wish(0, 1, 1);
        CHECK.same("by more of what has risen", w.contradicts(0), 1);
        CHECK.same("it is not counted", w.sale(8), 0);
        w.wish(0, 1, 0);
        CHECK.same("by what it wishes now", w.contradicts(0), -1);
        Wavesale off = Sales.prepared(1, 1, 3);
        off.rules(5, false);
        off.open();
        off.wish(0, 0, 1);
        off.wish(1, 0, 1);
        off.waive(2);
        off.close(1);
        off.wish(2, 0, 1);
        CHECK.same("without the rule", off.contradicts(2), 1);
    }

    /** It holds what it wishes behind all rounds but the last one. */
    private static void contradictsLastRound() {
        CHECK.promise(34, "Returns the first ROUND of the LOG");
        Wavesale w = Sales.opened(1, 1, 3);
        for (int k = 0; k < 3; k++) {
            w.wish(k, 0, 1);
        }
        w.close(3);
        w.wish(0, 0, 0);
        w.waive(0);
        w.close(1);
        CHECK.same("held behind round 3", w.codeIn(3, 0, true), 1);
        CHECK.same("left in round 4", w.codeIn(4, 0, true), 0);
        w.wish(0, 0, 1);
        CHECK.same("it contradicts round 4 alone", w.contradicts(0), 4);
    }

    private static void anewPlaces() {
        CHECK.promise(35, "Throws `IndexOutOfBoundsException` if there is no such ROUND in the LOG, BIDDER, or REGION");
        Wavesale none = new Wavesale();
        CHECK.noPlace("of nothing", none, () -> none.anew(1, 0, 0, 0));
        for (int stage = 0; stage <= 3; stage++) {
            Wavesale w = Sales.inStage(stage);
            int beyond = stage < 2 ? 1 : 2;
            for (int far : new int[] {beyond, 0, -1, Integer.MIN_VALUE, Integer.MAX_VALUE}) {
                CHECK.noPlace("round " + far + " in stage " + stage, w, () -> w.anew(far, 0, 0, 0));
                CHECK.noPlace("round " + far + " in stage " + stage + ", 6", w, () -> w.anew(far, 0, 0, 6));
            }
            for (int far : new int[] {2, -1, Integer.MIN_VALUE, Integer.MAX_VALUE}) {
                CHECK.noPlace("bidder " + far + " in stage " + stage, w, () -> w.anew(1, far, 0, 0));
                CHECK.noPlace("region " + far + " in stage " + stage, w, () -> w.anew(1, 0, far, 0));
                CHECK.noPlace("region " + far + " in stage " + stage + ", -1", w, () -> w.anew(1, 0, far, -1));
            }
        }
        CHECK.same("the last ones", Sales.inStage(2).anew(1, 1, 1, 0), 20);
    }

    private static void anewNumbers() {
        CHECK.promise(35, "Throws `IllegalArgumentException` if many is not 0 to 5");
        for (int stage = 2; stage <= 3; stage++) {
            Wavesale w = Sales.inStage(stage);
            CHECK.noArgument("6", w, () -> w.anew(1, 0, 0, 6));
            for (int far : Sales.FAR_OFF) {
                CHECK.noArgument("many " + far, w, () -> w.anew(1, 0, 0, far));
            }
            CHECK.same("0", w.anew(1, 0, 0, 0), 20);
            CHECK.same("5", w.anew(1, 0, 0, 5), 21);
        }
        Wavesale running = rising(10);
        running.close(1);
        CHECK.noArgument("6 while the clock runs", running, () -> running.anew(1, 0, 0, 6));
        CHECK.noArgument("-1 while the clock runs", running, () -> running.anew(1, 0, 0, -1));
        CHECK.same("5 while the clock runs", running.anew(1, 0, 0, 5), 11);
    }

    private static void anewRounds() {
        CHECK.promise(35, "Returns all PRICES together as they are behind the last ROUND that is run.");
        Wavesale w = rising(10);
        w.close(3);
        CHECK.same("as it was", w.anew(1, 0, 0, 1), 13);
        CHECK.same("nothing in round 1", w.anew(1, 0, 0, 0), 10);
        CHECK.same("nothing in round 2", w.anew(2, 0, 0, 0), 11);
        CHECK.same("nothing in round 3", w.anew(3, 0, 0, 0), 12);
        CHECK.noPlace("in round 4", w, () -> w.anew(4, 0, 0, 0));
        CHECK.noPlace("in round 0", w, () -> w.anew(0, 0, 0, 0));
    }

    private static void anewOfLastRound() {
        CHECK.part(6, "all ROUNDS of the LOG, or until the CLOCK would be over.");
        Wavesale w = rising(10);
        w.close(2);
        w.wish(0, 0, 0);
        w.close(1);
        CHECK.same("the clock is over", w.sale(0), 2);
        CHECK.same("the last round too, though it would go on", w.anew(3, 0, 0, 1), 13);
        CHECK.same("and no more than that", w.sale(15), 3);
    }

    private static void anewUntilOver() {
        CHECK.part(6, "or until the CLOCK would be over");
        Wavesale w = Sales.opened(2, 1, 2);
        for (int k = 0; k < 2; k++) {
            w.wish(k, 0, 1);
            w.waive(k);
        }
        w.close(1);
        w.wish(0, 1, 1);
        w.wish(1, 1, 1);
        w.close(1);
        CHECK.same("as it was", w.anew(1, 0, 0, 1), 12 + 11);
        CHECK.same("over in round 1, so nobody goes on in round 2", w.anew(1, 0, 0, 0), 20);
        CHECK.same("not over by more of the other region", w.anew(1, 0, 1, 1), 12 + 11);
    }

    private static void anewWithoutLimits() {
        CHECK.part(6, "but that a BIDDER WISHED another number for a REGION in a ROUND (whatever limits there are for telling that)");
        Wavesale w = new Wavesale();
        w.region(1, 9, 50);
        w.bidder(0, 1, 0, 2);
        w.bidder(0, 9, 0, 2);
        w.rules(1, true);
        w.open();
        w.wish(1, 0, 1);
        w.close(1);
        CHECK.same("above what it is eligible for, and cap of its group", w.anew(1, 0, 0, 1), 55);
        CHECK.same("above supply", w.anew(1, 1, 0, 5), 55);
        CHECK.same("as it was", w.anew(1, 1, 0, 1), 50);
    }

    /** In the run anew the second holds nothing behind round 1, so it contradicts itself in round 2. */
    private static void anewByItsOwnRun() {
        CHECK.part(6, "from ROUND 1 on the LOG is run by the same rules ((a) to (d) are done to all, by PRICES and by what is HELD in this run)");
        Wavesale w = Sales.opened(1, 1, 3);
        for (int k = 0; k < 3; k++) {
            w.wish(k, 0, 1);
        }
        w.close(1);
        w.wish(2, 0, 0);
        w.close(1);
        CHECK.same("price", w.ofRegion(0, 3), 12);
        CHECK.same("two are left all the same", w.anew(1, 1, 0, 1), 12);
        CHECK.same("it takes nothing behind round 1", w.anew(1, 1, 0, 0), 11);
        Wavesale free = Sales.prepared(1, 1, 3);
        free.rules(5, false);
        free.open();
        for (int k = 0; k < 3; k++) {
            free.wish(k, 0, 1);
        }
        free.close(1);
        free.wish(2, 0, 0);
        free.close(1);
        CHECK.same("without the rule it does", free.anew(1, 1, 0, 0), 12);
    }

    private static void anewOfTheLastBidder() {
        CHECK.part(6, "but that a BIDDER WISHED another number for a REGION in a ROUND");
        Wavesale w = Sales.opened(5, 1, 6);
        w.wish(0, 0, 1);
        w.wish(5, 0, 1);
        w.wish(4, 4, 1);
        w.wish(5, 4, 1);
        w.close(1);
        CHECK.same("as it was", w.anew(1, 5, 4, 1), 52);
        CHECK.same("nothing of the last region, the first one still", w.anew(1, 5, 4, 0), 51);
        CHECK.same("nothing of the first region, the last one still", w.anew(1, 5, 0, 0), 51);
        CHECK.same("two of a region of nobody", w.anew(1, 5, 3, 2), 53);
    }

    /** In round 2 the first wished nothing, and kept two as there was no excess; with another's wish there would be. */
    private static void anewByWhatWasWished() {
        CHECK.part(6, "with the numbers that were WISHED in it, and who WAIVED");
        Wavesale w = Sales.opened(2, 2, 4);
        w.wish(0, 0, 2);
        w.wish(2, 1, 2);
        w.wish(3, 1, 2);
        w.close(1);
        w.wish(0, 0, 0);
        w.close(1);
        CHECK.same("it held two behind that", w.codeIn(2, 0, true), 2);
        CHECK.same("as it was", w.anew(2, 1, 0, 0), 10 + 12);
        CHECK.same("two of another: no excess, as it goes", w.anew(2, 1, 0, 2), 10 + 12);
        CHECK.same("three of another", w.anew(2, 1, 0, 3), 11 + 12);
    }

    private static void anewChangesNothing() {
        CHECK.promise(35, "RUNS ANEW with a change.");
        Wavesale w = risenTwice();
        w.waive(1);
        long before = w.digest();
        w.anew(1, 0, 0, 5);
        w.anew(2, 2, 1, 0);
        CHECK.same("digest", w.digest(), before);
        CHECK.noState("who waived has waived still", w, () -> w.waive(1));
        CHECK.same("round", w.sale(1), 3);
    }

    /** What one run holds is nothing to the next one. */
    private static void anewAgainAndAgain() {
        CHECK.part(6, "from ROUND 1 on the LOG is run by the same rules");
        Wavesale w = Sales.opened(2, 2, 6);
        w.wish(0, 0, 2);
        w.close(1);
        for (int k = 0; k < 3; k++) {
            CHECK.same("as it was", w.anew(1, 0, 0, 2), 20);
            CHECK.same("more of the last bidder", w.anew(1, 5, 1, 5), 21);
            CHECK.same("more of both", w.anew(1, 5, 0, 5), 21);
            CHECK.isTrue("sound behind it", w.isSound());
        }
    }

    private static void anewOfSixty() {
        CHECK.part(6, "all ROUNDS of the LOG");
        Wavesale w = closed(60);
        CHECK.same("as it was", w.anew(60, 1, 0, 1), 61);
        CHECK.same("nothing in round 60", w.anew(60, 1, 0, 0), 60);
        CHECK.same("nothing in round 1", w.anew(1, 1, 0, 0), 1);
        CHECK.noPlace("round 61", w, () -> w.anew(61, 1, 0, 0));
    }
}
