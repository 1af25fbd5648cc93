/** Promises 11 to 13, 24 and 25, and what part 3 says of packages and winners, sentence by sentence. */
public final class PackagesBoundsTest {
    private static final Check CHECK = new Check("PackagesBoundsTest");
    private static final int A = 1;
    private static final int B = 6;
    private static final int[] NOBODY = {2, -1, Integer.MIN_VALUE, Integer.MAX_VALUE};

    public static void main(String[] args) {
        offerPlaces();
        offerCodes();
        offerAmountBelowNothing();
        offerStages();
        offerSix();
        offerSixWithThatOfTheClock();
        offerNumbers();
        offerNothing();
        offerSupply();
        offerCap();
        offerOfLastRegion();
        offerStartPrices();
        offerByStartPricesOnly();
        offerBudget();
        settleWays();
        settleStages();
        settleCounts();
        settleKeeps();
        failPlaces();
        failStages();
        failNoWinner();
        failDeposit();
        failEveryone();
        failFindsAnew();
        failOut();
        ofPackagePlaces();
        ofPackageNumbers();
        winsPlaces();
        winsStages();
        winnersOfNothing();
        winnersWithinSupply();
        winnersWithinCap();
        winnersWithinCapOfLaterOnes();
        winnersOfClockWithinCap();
        winnersHaveOnePackage();
        winnersOfSeveralChoices();
        winnersOfAllSix();
        CHECK.end();
    }

    private static void offerPlaces() {
        CHECK.promise(11, "Throws `IndexOutOfBoundsException` if there is no such BIDDER");
        Wavesale none = new Wavesale();
        CHECK.noPlace("of nobody", none, () -> none.offer(0, 1, 10));
        for (int stage = 0; stage <= 3; stage++) {
            Wavesale w = Sales.inStage(stage);
            for (int far : NOBODY) {
                CHECK.noPlace("bidder " + far + " in stage " + stage, w, () -> w.offer(far, A, 10));
                CHECK.noPlace("bidder " + far + ", no code", w, () -> w.offer(far, -1, 10));
                CHECK.noPlace("bidder " + far + ", no amount", w, () -> w.offer(far, A, -1));
            }
        }
        Wavesale full = Sales.told(1, 1, 6);
        CHECK.same("the sixth", full.offer(5, A, 10), 0);
        CHECK.noPlace("the seventh", full, () -> full.offer(6, A, 10));
    }

    private static void offerCodes() {
        CHECK.promise(11, "Throws `IllegalArgumentException` if code is no code of a BUNDLE of the REGIONS that there are, or amount is below 0");
        int beyond = 1;
        for (int regions = 1; regions <= 5; regions++) {
            beyond *= 6;
            int first = beyond;
            Wavesale w = Sales.told(regions, 5, 1);
            CHECK.same("5 of each of " + regions, w.offer(0, first - 1, 50 * regions), 0);
            CHECK.noArgument("one of another", w, () -> w.offer(0, first, 9999));
            CHECK.same("the smallest", w.offer(0, 1, 10), 1);
            for (int far : Sales.FAR_OFF) {
                CHECK.noArgument("code " + far, w, () -> w.offer(0, far, 9999));
            }
        }
        for (int stage = 0; stage <= 3; stage++) {
            Wavesale w = Sales.inStage(stage);
            CHECK.noArgument("code 36 in stage " + stage, w, () -> w.offer(0, 36, 9999));
            CHECK.noArgument("code -1 in stage " + stage, w, () -> w.offer(0, -1, 9999));
        }
        Wavesale without = Sales.prepared(0, 1, 1);
        CHECK.noArgument("code 1 without regions", without, () -> without.offer(0, 1, 10));
        CHECK.noState("code 0 without regions", without, () -> without.offer(0, 0, 10));
    }

    private static void offerAmountBelowNothing() {
        CHECK.promise(11, "or amount is below 0");
        for (int stage = 0; stage <= 3; stage++) {
            Wavesale w = Sales.inStage(stage);
            CHECK.noArgument("-1 in stage " + stage, w, () -> w.offer(0, A, -1));
            CHECK.noArgument("the least in stage " + stage, w, () -> w.offer(0, A, Integer.MIN_VALUE));
            CHECK.noState("0 in stage " + stage, w, () -> w.offer(0, A, 0));
            CHECK.noState("the greatest in stage " + stage, w, () -> w.offer(0, A, Integer.MAX_VALUE));
        }
    }

    private static void offerStages() {
        CHECK.promise(11, "Throws `IllegalStateException` if it is not STAGE 2, it has 6, or it is not as part 3 says");
        for (int stage : new int[] {0, 1, 3}) {
            Wavesale w = Sales.inStage(stage);
            CHECK.noState("stage " + stage, w, () -> w.offer(1, A, 10));
            CHECK.same("packages", w.ofBidder(1, 8), 0);
        }
        CHECK.same("stage 2", Sales.inStage(2).offer(1, A, 10), 0);
    }

    private static void offerSix() {
        CHECK.part(3, "6 of each at most, with that one; numbered from 0, also where there is none from the CLOCK");
        Wavesale w = Sales.told(1, 1, 2);
        for (int k = 0; k < 6; k++) {
            CHECK.same("number", w.offer(0, A, 10 + k), k);
        }
        CHECK.noState("a seventh", w, () -> w.offer(0, A, 99));
        CHECK.noArgument("a seventh of no code", w, () -> w.offer(0, 6, 99));
        CHECK.same("packages", w.ofBidder(0, 8), 6);
        CHECK.same("of another", w.offer(1, A, 10), 0);
    }

    private static void offerSixWithThatOfTheClock() {
        CHECK.part(3, "6 of each at most, with that one");
        Wavesale w = Sales.inStage(2);
        for (int k = 1; k < 6; k++) {
            CHECK.same("number", w.offer(0, A, 10 + k), k);
        }
        CHECK.noState("a seventh", w, () -> w.offer(0, A, 99));
        for (int k = 0; k < 6; k++) {
            CHECK.same("number of who has none from it", w.offer(1, A, 10 + k), k);
        }
        CHECK.noState("a seventh of that one", w, () -> w.offer(1, A, 99));
    }

    private static void offerNumbers() {
        CHECK.promise(11, "Returns its number.");
        Wavesale w = Sales.inStage(2);
        CHECK.same("behind that of the clock", w.offer(0, B, 10), 1);
        CHECK.same("the first of another", w.offer(1, B, 10), 0);
        CHECK.noState("one that is refused", w, () -> w.offer(1, B, 9));
        CHECK.same("the second, all the same", w.offer(1, B, 10), 1);
        CHECK.same("the same once more", w.offer(1, B, 10), 2);
    }

    private static void offerNothing() {
        CHECK.part(3, "a BUNDLE that has anything");
        Wavesale w = Sales.told(5, 5, 1);
        CHECK.noState("nothing for nothing", w, () -> w.offer(0, 0, 0));
        CHECK.noState("nothing for 1", w, () -> w.offer(0, 0, 1));
        CHECK.noState("nothing for all", w, () -> w.offer(0, 0, 90000));
        CHECK.same("one of the first region", w.offer(0, 1, 10), 0);
        CHECK.same("one of the last region", w.offer(0, 1296, 10), 1);
    }

    private static void offerSupply() {
        CHECK.part(3, "with no number above SUPPLY or CAP");
        for (int supply = 1; supply <= 5; supply++) {
            Wavesale w = Sales.told(1, supply, 1);
            CHECK.same("all of " + supply, w.offer(0, supply, 10 * supply), 0);
            int more = supply + 1;
            if (more <= 5) {
                CHECK.noState(more + " of " + supply, w, () -> w.offer(0, more, 10 * more));
            }
        }
    }

    private static void offerCap() {
        CHECK.part(3, "with no number above SUPPLY or CAP");
        for (int cap = 1; cap <= 5; cap++) {
            for (int group = 0; group <= 1; group++) {
                Wavesale w = Sales.prepared(1, 5, 0);
                w.bidder(999, 9, 0, group);
                w.rules(cap, true);
                w.open();
                w.close(1);
                CHECK.same("cap " + cap, w.offer(0, cap, 10 * cap), 0);
                int more = cap + 1;
                if (more <= 5) {
                    CHECK.noState(more + " with cap " + cap, w, () -> w.offer(0, more, 10 * more));
                }
            }
        }
    }

    private static void offerOfLastRegion() {
        CHECK.part(3, "with no number above SUPPLY or CAP");
        Wavesale w = new Wavesale();
        w.region(5, 1, 10);
        w.region(5, 1, 10);
        w.region(2, 1, 10);
        w.bidder(999, 9, 0, 0);
        w.rules(3, true);
        w.open();
        w.close(1);
        CHECK.same("3, 3 and 2", w.offer(0, 3 + 18 + 72, 80), 0);
        CHECK.noState("4 of the first", w, () -> w.offer(0, 4 + 18 + 72, 999));
        CHECK.noState("4 of the second", w, () -> w.offer(0, 3 + 24 + 72, 999));
        CHECK.noState("3 of the last", w, () -> w.offer(0, 3 + 18 + 108, 999));
    }

    private static void offerStartPrices() {
        CHECK.part(3, "an AMOUNT that is no less than START prices times numbers together");
        Wavesale w = new Wavesale();
        w.region(5, 1, 999);
        w.region(5, 1, 1);
        w.bidder(90000, 9, 0, 0);
        w.open();
        w.close(1);
        CHECK.noState("4999 for 5 of 999 and 5 of 1", w, () -> w.offer(0, 35, 4999));
        CHECK.same("5000 for these", w.offer(0, 35, 5000), 0);
        CHECK.noState("0 for one of 1", w, () -> w.offer(0, B, 0));
        CHECK.same("1 for it", w.offer(0, B, 1), 1);
        CHECK.noState("998 for one of 999", w, () -> w.offer(0, A, 998));
        CHECK.same("999 for it", w.offer(0, A, 999), 2);
    }

    private static void offerByStartPricesOnly() {
        CHECK.part(3, "START prices times numbers together");
        Wavesale w = Sales.opened(1, 1, 2);
        w.wish(0, 0, 1);
        w.wish(1, 0, 1);
        w.close(9);
        w.wish(0, 0, 0);
        w.close(1);
        CHECK.isTrue("the price has risen", w.ofRegion(0, 3) > 10);
        CHECK.same("the start price is enough", w.offer(0, A, 10), 0);
        CHECK.noState("less is not", w, () -> w.offer(0, A, 9));
    }

    private static void offerBudget() {
        CHECK.part(3, "and no more than BUDGET");
        Wavesale w = Sales.prepared(1, 1, 0);
        w.bidder(99999, 9, 0, 0);
        w.bidder(10, 9, 0, 0);
        w.bidder(9, 9, 0, 0);
        w.bidder(0, 9, 0, 0);
        w.open();
        w.close(1);
        CHECK.same("99999", w.offer(0, A, 99999), 0);
        CHECK.noState("100000", w, () -> w.offer(0, A, 100000));
        CHECK.same("all of 10", w.offer(1, A, 10), 0);
        CHECK.noState("11 of 10", w, () -> w.offer(1, A, 11));
        CHECK.noState("10 of 9", w, () -> w.offer(2, A, 10));
        CHECK.noState("10 of 0", w, () -> w.offer(3, A, 10));
        CHECK.noState("0 of 0", w, () -> w.offer(3, A, 0));
        CHECK.same("packages", w.ofBidder(0, 8) + w.ofBidder(1, 8), 2);
    }

    private static void settleWays() {
        CHECK.promise(12, "Throws `IllegalArgumentException` if way is not 0 to 2");
        for (int stage = 0; stage <= 3; stage++) {
            Wavesale w = Sales.inStage(stage);
            CHECK.noArgument("way 3 in stage " + stage, w, () -> w.settle(3));
            for (int far : Sales.FAR_OFF) {
                CHECK.noArgument("way " + far + " in stage " + stage, w, () -> w.settle(far));
            }
            CHECK.same("stage", w.sale(0), stage);
        }
        int[] due = {10, 0, 0};
        for (int way = 0; way <= 2; way++) {
            Wavesale w = Sales.inStage(2);
            CHECK.same("way " + way, w.settle(way), 1);
            CHECK.same("payment by way " + way, w.pays(0, false), due[way]);
        }
    }

    private static void settleStages() {
        CHECK.promise(12, "Throws `IllegalStateException` if it is not STAGE 2");
        for (int stage : new int[] {0, 1, 3}) {
            Wavesale w = Sales.inStage(stage);
            for (int k = 0; k <= 2; k++) {
                int way = k;
                CHECK.noState("way " + way + " in stage " + stage, w, () -> w.settle(way));
            }
        }
        Wavesale empty = new Wavesale();
        CHECK.noState("of a new object", empty, () -> empty.settle(0));
    }

    private static void settleCounts() {
        CHECK.promise(12, "Returns how many WINNERS there are.");
        for (int winners = 0; winners <= 6; winners++) {
            Wavesale w = Sales.told(2, 3, 6);
            for (int k = 0; k < winners; k++) {
                w.offer(k, k < 3 ? A : B, 10 + k);
            }
            CHECK.same("winners", w.settle(winners % 3), winners);
            CHECK.same("winners then", w.sale(9), winners);
            CHECK.same("stage", w.sale(0), 3);
        }
    }

    private static void settleKeeps() {
        CHECK.part(3, "To SETTLE by a WAY: WINNERS and PAYMENTS are kept as they are (STAGE 3).");
        for (int way = 0; way <= 2; way++) {
            Wavesale w = Sales.told(2, 1, 3);
            w.offer(0, A, 100);
            w.offer(1, B, 60);
            w.offer(2, A + B, 131);
            int[] due = {w.wouldPay(0, way), w.wouldPay(1, way), w.wouldPay(2, way)};
            w.settle(way);
            for (int k = 0; k < 3; k++) {
                CHECK.same("payment of " + k + " by way " + way, w.pays(k, false), due[k]);
                CHECK.same("what wins of " + k, w.wins(k), k < 2 ? 0 : -1);
            }
        }
    }

    private static void failPlaces() {
        CHECK.promise(13, "Throws `IndexOutOfBoundsException` if there is no such BIDDER");
        Wavesale none = new Wavesale();
        CHECK.noPlace("nobody", none, () -> none.fail(0));
        for (int stage = 0; stage <= 3; stage++) {
            Wavesale w = Sales.inStage(stage);
            for (int far : NOBODY) {
                CHECK.noPlace("bidder " + far + " in stage " + stage, w, () -> w.fail(far));
            }
        }
        Wavesale full = Sales.told(1, 1, 6);
        full.offer(5, A, 30);
        full.settle(0);
        CHECK.noPlace("the seventh", full, () -> full.fail(6));
        CHECK.same("the sixth", full.fail(5), 3);
    }

    private static void failStages() {
        CHECK.promise(13, "Throws `IllegalStateException` if it is not STAGE 3, or it is no WINNER");
        for (int stage = 0; stage <= 2; stage++) {
            Wavesale w = Sales.inStage(stage);
            CHECK.noState("stage " + stage, w, () -> w.fail(0));
            CHECK.same("it is not out", w.ofBidder(0, 9), 0);
        }
        CHECK.same("stage 3", Sales.inStage(3).fail(0), 1);
    }

    private static void failNoWinner() {
        CHECK.promise(13, "or it is no WINNER");
        Wavesale w = Sales.told(1, 1, 3);
        w.offer(0, A, 50);
        w.offer(1, A, 40);
        w.settle(0);
        CHECK.noState("who offered less", w, () -> w.fail(1));
        CHECK.noState("who offered nothing", w, () -> w.fail(2));
        w.fail(0);
        CHECK.noState("who is out", w, () -> w.fail(0));
        CHECK.same("who wins then", w.fail(1), 4);
        CHECK.noState("nobody is left", w, () -> w.fail(1));
        CHECK.same("deposits", w.sale(12), 9);
    }

    private static void failDeposit() {
        CHECK.part(3, "its DEPOSIT (AMOUNT / 10) is kept");
        CHECK.promise(13, "Returns its DEPOSIT.");
        int[] amounts = {1, 9, 10, 11, 19, 20, 99, 100, 99999};
        for (int amount : amounts) {
            for (int way = 0; way <= 2; way++) {
                Wavesale w = new Wavesale();
                w.region(1, 1, 1);
                w.bidder(99999, 9, 30, 0);
                w.open();
                w.close(1);
                w.offer(0, A, amount);
                w.settle(way);
                CHECK.same("of " + amount + " by way " + way, w.fail(0), amount / 10);
                CHECK.same("kept", w.sale(12), amount / 10);
            }
        }
    }

    private static void failEveryone() {
        CHECK.part(3, "A WINNER can DEFAULT then");
        Wavesale w = Sales.told(1, 1, 6);
        for (int k = 0; k < 6; k++) {
            w.offer(k, A, 60 - k * 10);
        }
        w.settle(1);
        int sum = 0;
        for (int k = 0; k < 6; k++) {
            CHECK.same("the next one wins", w.wins(k), 0);
            CHECK.same("it pays what the next would", w.pays(k, false), k < 5 ? 50 - k * 10 : 0);
            CHECK.same("chart", w.chart(0), String.valueOf(k));
            CHECK.same("it is not out yet", w.ofBidder(k, 9), 0);
            CHECK.same("its deposit", w.fail(k), 6 - k);
            CHECK.same("it is out", w.ofBidder(k, 9), 1);
            sum += 6 - k;
            CHECK.same("all deposits", w.sale(12), sum);
        }
        CHECK.same("winners", w.sale(9), 0);
        CHECK.same("worth", w.sale(10), 0);
        CHECK.same("due", w.sale(11), 0);
        CHECK.same("chart", w.chart(0), "-");
        CHECK.isTrue("sound without anybody", w.isSound());
    }

    private static void failFindsAnew() {
        CHECK.part(3, "it is OUT, and WINNERS and PAYMENTS are found anew by the same WAY");
        int[] due = {90, 30, 30};
        for (int way = 0; way <= 2; way++) {
            Wavesale w = Sales.told(1, 1, 3);
            w.offer(0, A, 100);
            w.offer(1, A, 90);
            w.offer(2, A, 30);
            w.settle(way);
            w.fail(0);
            CHECK.same("the second by way " + way, w.pays(1, false), due[way]);
            CHECK.same("the first by way " + way, w.pays(0, false), 0);
            CHECK.same("due of the first", w.pays(0, true), 0);
        }
    }

    private static void failOut() {
        CHECK.part(3, "for each one of these that is not OUT at most one of its PACKAGES");
        Wavesale w = Sales.told(2, 1, 2);
        w.offer(0, A, 50);
        w.offer(0, B, 40);
        w.offer(1, B, 30);
        w.settle(0);
        w.fail(0);
        CHECK.same("none of its packages wins", w.wins(0), -1);
        CHECK.same("they are there still", w.ofPackage(0, 1, true), 40);
        CHECK.same("worth of it", w.worth(1), 0);
        CHECK.same("worth of both", w.worth(3), 30);
        CHECK.same("it is out", w.ofBidder(0, 9), 1);
        CHECK.same("the other one is not", w.ofBidder(1, 9), 0);
    }

    private static void ofPackagePlaces() {
        CHECK.promise(24, "Throws `IndexOutOfBoundsException` if there is no such BIDDER, or PACKAGE of it");
        Wavesale none = new Wavesale();
        CHECK.noPlace("of nobody", none, () -> none.ofPackage(0, 0, true));
        for (int stage = 0; stage <= 3; stage++) {
            Wavesale w = Sales.inStage(stage);
            for (int far : NOBODY) {
                CHECK.noPlace("bidder " + far, w, () -> w.ofPackage(far, 0, true));
            }
            for (int far : new int[] {1, 5, 6, -1, Integer.MIN_VALUE, Integer.MAX_VALUE}) {
                CHECK.noPlace("package " + far, w, () -> w.ofPackage(0, far, true));
                CHECK.noPlace("code of " + far, w, () -> w.ofPackage(0, far, false));
            }
            CHECK.noPlace("of who has none", w, () -> w.ofPackage(1, 0, true));
            if (stage < 2) {
                CHECK.noPlace("of who has none yet", w, () -> w.ofPackage(0, 0, true));
            } else {
                CHECK.same("of who has one", w.ofPackage(0, 0, true), 10);
            }
        }
    }

    private static void ofPackageNumbers() {
        CHECK.promise(24, "Returns that.");
        Wavesale w = Sales.told(2, 1, 6);
        for (int k = 0; k < 6; k++) {
            w.offer(5, k % 2 == 0 ? A : B, 10 + k);
        }
        for (int k = 0; k < 6; k++) {
            CHECK.same("amount of " + k, w.ofPackage(5, k, true), 10 + k);
            CHECK.same("code of " + k, w.ofPackage(5, k, false), k % 2 == 0 ? A : B);
        }
        CHECK.noPlace("a seventh", w, () -> w.ofPackage(5, 6, true));
        CHECK.noPlace("-1", w, () -> w.ofPackage(5, -1, false));
    }

    private static void winsPlaces() {
        CHECK.promise(25, "Throws `IndexOutOfBoundsException` if there is no such BIDDER");
        Wavesale none = new Wavesale();
        CHECK.noPlace("nobody", none, () -> none.wins(0));
        for (int stage = 0; stage <= 3; stage++) {
            Wavesale w = Sales.inStage(stage);
            for (int far : NOBODY) {
                CHECK.noPlace("bidder " + far + " in stage " + stage, w, () -> w.wins(far));
            }
        }
        Wavesale full = Sales.told(1, 1, 6);
        CHECK.same("the sixth", full.wins(5), -1);
        CHECK.noPlace("the seventh", full, () -> full.wins(6));
    }

    private static void winsStages() {
        CHECK.promise(25, "Returns which of its PACKAGES wins (by WINNERS as they are; in STAGE 3 as they are kept); NONE, if none, and in STAGES 0 and 1.");
        int[] due = {-1, -1, 0, 0};
        for (int stage = 0; stage <= 3; stage++) {
            Wavesale w = Sales.inStage(stage);
            CHECK.same("who wishes a block, in stage " + stage, w.wins(0), due[stage]);
            CHECK.same("who wishes none, in stage " + stage, w.wins(1), -1);
        }
        Wavesale w = Sales.told(1, 1, 1);
        for (int k = 0; k < 6; k++) {
            w.offer(0, A, 10 + k);
            CHECK.same("the dearest one", w.wins(0), k);
        }
    }

    private static void winnersOfNothing() {
        CHECK.promise(25, "NONE, if none, and in STAGES 0 and 1");
        Wavesale w = Sales.told(5, 5, 6);
        for (int k = 0; k < 6; k++) {
            CHECK.same("without packages", w.wins(k), -1);
        }
        CHECK.same("winners", w.settle(2), 0);
        CHECK.same("none of them when settled", w.wins(0), -1);
        CHECK.noState("no default", w, () -> w.fail(0));
    }

    private static void winnersWithinSupply() {
        CHECK.part(3, "so that in no REGION there are more than SUPPLY");
        Wavesale w = Sales.told(1, 5, 2);
        w.offer(0, 2, 20);
        w.offer(1, 3, 30);
        CHECK.same("2 and 3 of 5", w.sale(10), 50);
        w.offer(0, 3, 39);
        CHECK.same("not 3 and 3", w.sale(10), 50);
        w.offer(0, 3, 51);
        CHECK.same("3 alone for more", w.sale(10), 51);
        CHECK.same("one winner", w.sale(9), 1);
        Wavesale last = Sales.told(5, 1, 2);
        last.offer(0, 1296 + A, 20);
        last.offer(1, 1296, 15);
        CHECK.same("of the last region too", last.sale(10), 20);
    }

    private static void winnersWithinCap() {
        CHECK.part(3, "and no GROUP (not 0) has more than CAP");
        for (int group = 0; group <= 3; group++) {
            Wavesale w = Sales.prepared(2, 5, 0);
            w.bidder(999, 9, 0, group);
            w.bidder(999, 9, 0, group);
            w.bidder(999, 9, 0, group == 1 ? 2 : 1);
            w.rules(2, true);
            w.open();
            w.close(1);
            w.offer(0, 1, 50);
            w.offer(1, 1, 40);
            CHECK.same("1 and 1 with cap 2", w.sale(10), 90);
            w.offer(1, 2, 60);
            CHECK.same("1 and 2 of group " + group, w.sale(10), group == 0 ? 110 : 90);
            w.offer(1, 1 + 12, 45);
            CHECK.same("2 of another region", w.worth(3), group == 0 ? 110 : 95);
            w.offer(2, 2, 20);
            CHECK.same("2 of another group", w.worth(7) - w.worth(3), 20);
        }
    }

    private static void winnersWithinCapOfLaterOnes() {
        CHECK.part(3, "and no GROUP (not 0) has more than CAP");
        Wavesale w = Sales.prepared(5, 5, 0);
        for (int group : new int[] {0, 0, 0, 0, 3, 3}) {
            w.bidder(999, 9, 0, group);
        }
        w.rules(2, true);
        w.open();
        w.close(1);
        w.offer(4, 2, 50);
        w.offer(5, 1, 40);
        CHECK.same("one of the last two", w.sale(10), 50);
        w.offer(0, 2, 30);
        w.offer(1, 1, 20);
        CHECK.same("and both of the first two", w.sale(10), 100);
        w.offer(5, 1296, 15);
        CHECK.same("the last one of another region", w.sale(10), 115);
    }

    private static void winnersOfClockWithinCap() {
        CHECK.part(3, "no GROUP (not 0) has more than CAP");
        Wavesale w = Sales.prepared(1, 5, 0);
        w.region(1, 1, 10);
        w.bidder(0, 9, 0, 1);
        w.bidder(0, 9, 0, 1);
        w.bidder(0, 9, 0, 0);
        w.bidder(0, 9, 0, 0);
        w.rules(3, false);
        w.open();
        w.wish(0, 0, 2);
        w.wish(2, 1, 1);
        w.wish(3, 1, 1);
        w.waive(1);
        w.close(1);
        w.wish(0, 0, 0);
        w.wish(1, 0, 3);
        w.wish(2, 1, 0);
        w.close(1);
        CHECK.same("the clock is over", w.sale(0), 2);
        CHECK.same("both hold theirs", w.ofRegion(0, 4), 5);
        CHECK.same("within supply", w.ofRegion(0, 5), 0);
        CHECK.same("the one with more wins", w.wins(1), 0);
        CHECK.same("the other one can not", w.wins(0), -1);
        CHECK.isTrue("sound", w.isSound());
    }

    private static void winnersHaveOnePackage() {
        CHECK.part(3, "at most one of its PACKAGES");
        Wavesale w = Sales.told(2, 5, 1);
        w.offer(0, A, 50);
        w.offer(0, B, 60);
        CHECK.same("one of two", w.sale(10), 60);
        CHECK.same("the dearer one", w.wins(0), 1);
        CHECK.same("winners", w.sale(9), 1);
    }

    private static void winnersOfSeveralChoices() {
        CHECK.part(3, "Of several such choices: the first BIDDER for whom they differ tells: none ahead of any PACKAGE, then the smaller number.");
        Wavesale w = Sales.told(1, 1, 6);
        for (int k = 0; k < 6; k++) {
            w.offer(k, A, 50);
            CHECK.same("the last of the same", w.wins(k), 0);
            CHECK.same("one winner", w.sale(9), 1);
        }
        w.offer(5, A, 50);
        CHECK.same("the smaller number of two", w.wins(5), 0);
        w.offer(0, A, 51);
        CHECK.same("the first with more", w.wins(0), 1);
        Wavesale v = Sales.told(2, 1, 2);
        v.offer(0, A, 50);
        v.offer(0, B, 50);
        v.offer(1, B, 50);
        v.offer(1, A, 50);
        CHECK.same("the smaller number of the first", v.wins(0), 0);
        CHECK.same("and what goes with it of the second", v.wins(1), 0);
        Wavesale u = Sales.told(2, 1, 3);
        u.offer(0, A, 30);
        u.offer(1, A + B, 60);
        u.offer(2, B, 30);
        CHECK.same("one for as much as two, ahead of the first", u.wins(1), 0);
        CHECK.same("so the first has none", u.wins(0), -1);
    }

    private static void winnersOfAllSix() {
        CHECK.part(3, "the sum of AMOUNTS is the greatest (WORTH of the set)");
        Wavesale w = Sales.told(2, 3, 6);
        int[] codes = {A, B, A + B, 2 * A, 2 * B, 3 * A};
        for (int k = 0; k < 6; k++) {
            for (int nth = 0; nth < 6; nth++) {
                w.offer(k, codes[nth], 60 + nth * 10);
            }
        }
        CHECK.same("one each: 3 of A and 3 of B", w.sale(10), 3 * 60 + 3 * 70);
        CHECK.part(3, "WINNERS are those among all.");
        CHECK.same("winners", w.sale(9), 6);
        CHECK.same("the first three", w.wins(0) + w.wins(1) + w.wins(2), 0);
        CHECK.same("the last three", w.wins(3) + w.wins(4) + w.wins(5), 3);
    }
}
