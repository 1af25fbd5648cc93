/** Promises 8 to 10 and 33 to 35, and part 2, sentence by sentence. */
public final class ClockBoundsTest {
    private static final Check CHECK = new Check("ClockBoundsTest");

    public static void main(String[] args) {
        wishPlaces();
        wishNumbers();
        wishStages();
        wishSupply();
        wishCap();
        wishEligible();
        wishAllEligible();
        wishGroup();
        wishFullGroup();
        wishOfOthersAsTheyAreNow();
        wishNotAboveNow();
        wishNotAboveNowInGroup();
        wishPoints();
        holdsNothingAtFirst();
        wishesWhatItHolds();
        lastOneWishesWhatItHolds();
        waivePlaces();
        waiveStages();
        waiveOnceARound();
        waiveAsLongAsThereIsOne();
        waiveForOneRound();
        closeNumbers();
        closeStages();
        closeSoMany();
        closeUntilOver();
        closeFurtherRounds();
        contradictionOfNothing();
        contradictionOfOne();
        contradictionAheadOfThisRound();
        contradictionCounted();
        contradictionOfWhatItHolds();
        contradictionOfTheLastOne();
        contradictionWithoutRule();
        activityJustEnough();
        activityOfMany();
        activityNeverMakesMore();
        activityFromThenOn();
        activityOfNothing();
        activityWaived();
        holdsWhatItWishes();
        goesToItsEnd();
        goesAsLongAsThereIsExcess();
        goesToWhatItWishes();
        CHECK.end();
    }

    private static void wishPlaces() {
        CHECK.promise(8, "Throws `IndexOutOfBoundsException` if there is no such BIDDER, or REGION");
        Wavesale none = new Wavesale();
        CHECK.noPlace("of nobody for nothing", none, () -> none.wish(0, 0, 0));
        for (int stage = 0; stage <= 3; stage++) {
            Wavesale w = Sales.inStage(stage);
            for (int far : new int[] {2, -1, Integer.MIN_VALUE, Integer.MAX_VALUE}) {
                CHECK.noPlace("bidder " + far, w, () -> w.wish(far, 0, 0));
                CHECK.noPlace("region " + far, w, () -> w.wish(0, far, 0));
                CHECK.noPlace("bidder " + far + ", and 6", w, () -> w.wish(far, 0, 6));
                CHECK.noPlace("region " + far + ", and -1", w, () -> w.wish(0, far, -1));
            }
        }
        Wavesale full = Sales.opened(5, 1, 6);
        CHECK.same("the last bidder, the last region", full.wish(5, 4, 1), 1);
        CHECK.noPlace("the seventh bidder", full, () -> full.wish(6, 4, 1));
        CHECK.noPlace("the sixth region", full, () -> full.wish(5, 5, 1));
    }

    private static void wishNumbers() {
        CHECK.promise(8, "Throws `IllegalArgumentException` if many is not 0 to 5");
        for (int stage = 0; stage <= 3; stage++) {
            Wavesale w = Sales.inStage(stage);
            CHECK.noArgument("6 in stage " + stage, w, () -> w.wish(0, 0, 6));
            for (int far : Sales.FAR_OFF) {
                CHECK.noArgument(far + " in stage " + stage, w, () -> w.wish(0, 0, far));
            }
        }
        Wavesale w = Sales.opened(1, 5, 1);
        CHECK.same("5", w.wish(0, 0, 5), 5);
        CHECK.same("0", w.wish(0, 0, 0), 0);
    }

    private static void wishStages() {
        CHECK.promise(8, "Throws `IllegalStateException` if it is not STAGE 1, or more than part 2 says");
        for (int stage : new int[] {0, 2, 3}) {
            Wavesale w = Sales.inStage(stage);
            CHECK.noState("1 in stage " + stage, w, () -> w.wish(0, 0, 1));
            CHECK.noState("0 in stage " + stage, w, () -> w.wish(1, 1, 0));
        }
        Wavesale w = Sales.inStage(1);
        CHECK.same("stage 1", w.wish(1, 1, 1), 1);
        CHECK.noState("more than there is", w, () -> w.wish(1, 1, 3));
    }

    private static void wishSupply() {
        CHECK.part(2, "SUPPLY and CAP at most");
        for (int supply = 1; supply <= 5; supply++) {
            Wavesale w = Sales.opened(1, supply, 1);
            CHECK.same("all of " + supply, w.wish(0, 0, supply), supply);
            int more = supply + 1;
            if (more <= 5) {
                CHECK.noState(more + " of " + supply, w, () -> w.wish(0, 0, more));
            }
        }
    }

    private static void wishCap() {
        CHECK.part(1, "is how many BLOCKS of a REGION one BIDDER, and all of one GROUP together (not of 0), may have.");
        for (int group = 0; group <= 3; group++) {
            for (int cap = 1; cap <= 5; cap++) {
                Wavesale w = Sales.prepared(1, 5, 0);
                w.bidder(0, 9, 0, group);
                w.rules(cap, true);
                w.open();
                CHECK.same("cap " + cap + " of group " + group, w.wish(0, 0, cap), cap);
                int more = cap + 1;
                if (more <= 5) {
                    CHECK.noState(more + " with cap " + cap, w, () -> w.wish(0, 0, more));
                }
            }
        }
    }

    private static void wishEligible() {
        CHECK.part(2, "POINTS of all that it WISHES together at most what it is ELIGIBLE for");
        Wavesale w = new Wavesale();
        w.region(5, 3, 10);
        w.region(5, 4, 10);
        w.bidder(0, 10, 0, 0);
        w.bidder(0, 9, 0, 0);
        w.bidder(0, 3, 0, 0);
        w.open();
        w.wish(0, 0, 2);
        CHECK.same("10 of 10", w.wish(0, 1, 1), 10);
        CHECK.noState("13 of 10", w, () -> w.wish(0, 0, 3));
        CHECK.noState("14 of 10", w, () -> w.wish(0, 1, 2));
        w.wish(1, 0, 2);
        CHECK.noState("10 of 9", w, () -> w.wish(1, 1, 1));
        CHECK.same("3 of 3", w.wish(2, 0, 1), 3);
        CHECK.noState("6 of 3", w, () -> w.wish(2, 0, 2));
        w.wish(2, 0, 0);
        CHECK.noState("4 of 3", w, () -> w.wish(2, 1, 1));
    }

    private static void wishAllEligible() {
        CHECK.part(2, "POINTS of all that it WISHES together at most what it is ELIGIBLE for");
        Wavesale w = new Wavesale();
        for (int k = 0; k < 5; k++) {
            w.region(5, 8, 1);
        }
        w.bidder(0, 200, 0, 0);
        w.bidder(0, 199, 0, 0);
        w.open();
        for (int k = 0; k < 5; k++) {
            CHECK.same("200 at most", w.wish(0, k, 5), 40 * (k + 1));
        }
        for (int k = 0; k < 4; k++) {
            w.wish(1, k, 5);
        }
        CHECK.same("192 of 199", w.wish(1, 4, 4), 192);
        CHECK.noState("200 of 199", w, () -> w.wish(1, 4, 5));
    }

    private static void wishGroup() {
        CHECK.part(2, "and with WISHES of the others of its GROUP (not 0; as they are now) CAP at most");
        for (int group = 0; group <= 3; group++) {
            Wavesale w = Sales.prepared(2, 5, 0);
            w.bidder(0, 9, 0, group);
            w.bidder(0, 9, 0, group);
            w.bidder(0, 9, 0, group == 3 ? 1 : group + 1);
            w.rules(3, true);
            w.open();
            w.wish(0, 0, 2);
            CHECK.same("another group, " + group, w.wish(2, 0, 3), 3);
            CHECK.same("another region", w.wish(1, 1, 3), 3);
            CHECK.same("1 with 2 of group " + group, w.wish(1, 0, 1), 4);
            if (group > 0) {
                CHECK.noState("2 with 2 of group " + group, w, () -> w.wish(1, 0, 2));
                CHECK.noState("3 with 1 of group " + group, w, () -> w.wish(0, 0, 3));
            } else {
                CHECK.same("no group is no group", w.wish(1, 0, 3), 6);
            }
        }
    }

    private static void wishFullGroup() {
        CHECK.part(2, "and with WISHES of the others of its GROUP (not 0; as they are now) CAP at most");
        Wavesale w = Sales.prepared(1, 5, 0);
        for (int k = 0; k < 6; k++) {
            w.bidder(0, 9, 0, 2);
        }
        w.open();
        for (int k = 0; k < 5; k++) {
            CHECK.same("1 of each", w.wish(k, 0, 1), 1);
        }
        CHECK.noState("1 of the sixth", w, () -> w.wish(5, 0, 1));
        CHECK.noState("2 of the first", w, () -> w.wish(0, 0, 2));
        w.wish(4, 0, 0);
        CHECK.same("instead of the fifth", w.wish(5, 0, 1), 1);
    }

    private static void wishOfOthersAsTheyAreNow() {
        CHECK.part(2, "(not 0; as they are now)");
        Wavesale w = Sales.prepared(1, 1, 0);
        w.bidder(0, 9, 0, 1);
        w.bidder(0, 9, 0, 1);
        w.bidder(0, 9, 0, 0);
        w.rules(1, false);
        w.open();
        w.wish(0, 0, 1);
        w.wish(2, 0, 1);
        w.waive(1);
        w.close(1);
        CHECK.noState("the other one wishes what it holds", w, () -> w.wish(1, 0, 1));
        w.wish(0, 0, 0);
        CHECK.same("it wishes nothing now", w.wish(1, 0, 1), 1);
        CHECK.same("though it holds that", w.wants(0, 0, true), 1);
        CHECK.noState("so it can't any more", w, () -> w.wish(0, 0, 1));
    }

    /** Who holds two of the first region has wished nothing, but there was no excess; others keep the clock going. */
    private static Wavesale eligibleForNothing(int group) {
        Wavesale w = new Wavesale();
        w.region(4, 3, 10);
        w.region(1, 1, 10);
        w.bidder(0, 6, 0, group);
        w.bidder(0, 9, 0, group);
        w.bidder(0, 9, 0, 0);
        w.bidder(0, 9, 0, 0);
        w.rules(2, false);
        w.open();
        w.wish(0, 0, 2);
        w.wish(2, 1, 1);
        w.wish(3, 1, 1);
        w.waive(1);
        w.close(1);
        w.wish(0, 0, 0);
        w.waive(1);
        if (group > 0) {
            w.wish(1, 0, 2);
        }
        w.close(1);
        return w;
    }

    private static void wishNotAboveNow() {
        CHECK.part(2, "but a number that is not above what it WISHES of that REGION now is always let.");
        Wavesale w = eligibleForNothing(0);
        CHECK.same("eligible for nothing", w.ofBidder(0, 1), 0);
        CHECK.same("it wishes what it holds", w.wants(0, 0, false), 2);
        CHECK.same("the same number", w.wish(0, 0, 2), 6);
        CHECK.same("nothing of what it has nothing of", w.wish(0, 1, 0), 6);
        CHECK.noState("one of what it has nothing of", w, () -> w.wish(0, 1, 1));
        CHECK.noState("one more", w, () -> w.wish(0, 0, 3));
        CHECK.same("the most", w.most(0, 0), 2);
        CHECK.same("one less", w.wish(0, 0, 1), 3);
        CHECK.noState("what it wished a moment ago", w, () -> w.wish(0, 0, 2));
        CHECK.same("the most then", w.most(0, 0), 1);
        CHECK.same("nothing", w.wish(0, 0, 0), 0);
        CHECK.noState("one", w, () -> w.wish(0, 0, 1));
    }

    private static void wishNotAboveNowInGroup() {
        CHECK.part(2, "but a number that is not above what it WISHES of that REGION now is always let.");
        Wavesale w = eligibleForNothing(1);
        CHECK.same("its group wishes more than cap", w.ofRegion(0, 6), 4);
        CHECK.same("the same number", w.wish(1, 0, 2), 6);
        CHECK.same("the most", w.most(1, 0), 2);
        CHECK.same("one less", w.wish(1, 0, 1), 3);
        CHECK.noState("two again", w, () -> w.wish(1, 0, 2));
        w.wish(0, 0, 1);
        CHECK.noState("two with one", w, () -> w.wish(1, 0, 2));
        w.wish(0, 0, 0);
        CHECK.same("two with none", w.wish(1, 0, 2), 6);
    }

    private static void wishPoints() {
        CHECK.promise(8, "Returns POINTS of all that it WISHES then.");
        Wavesale w = new Wavesale();
        w.region(5, 9, 1);
        w.region(5, 1, 1);
        w.bidder(0, 50, 0, 0);
        w.bidder(0, 50, 0, 0);
        w.open();
        CHECK.same("nothing", w.wish(0, 0, 0), 0);
        CHECK.same("5 of 9 points", w.wish(0, 0, 5), 45);
        CHECK.same("and 5 of 1", w.wish(0, 1, 5), 50);
        CHECK.same("of another", w.wish(1, 1, 2), 2);
        CHECK.same("without what was 45", w.wish(0, 0, 0), 5);
        CHECK.same("activity is the same", w.ofBidder(0, 7), 5);
    }

    private static void holdsNothingAtFirst() {
        CHECK.part(2, "Each BIDDER HOLDS a BUNDLE (nothing at first), and WISHES one");
        Wavesale w = Sales.opened(5, 5, 6);
        for (int k = 0; k < 6; k++) {
            CHECK.same("holds", w.ofBidder(k, 5), 0);
            CHECK.same("wishes", w.ofBidder(k, 6), 0);
        }
        w.wish(5, 4, 5);
        CHECK.same("a wish is not held yet", w.ofBidder(5, 5), 0);
        CHECK.same("it is wished", w.ofBidder(5, 6), 5 * 1296);
    }

    private static void wishesWhatItHolds() {
        CHECK.part(2, "what it HOLDS as the ROUND begins, until it tells another number for a REGION");
        Wavesale w = eligibleForNothing(0);
        CHECK.same("it told nothing", w.codeIn(2, 0, false), 0);
        CHECK.same("but holds two", w.codeIn(2, 0, true), 2);
        CHECK.same("and wishes these as the round begins", w.ofBidder(0, 6), 2);
        w.wish(0, 0, 1);
        CHECK.same("until it tells another number", w.ofBidder(0, 6), 1);
        CHECK.same("holding as before", w.ofBidder(0, 5), 2);
    }

    private static void lastOneWishesWhatItHolds() {
        CHECK.part(2, "what it HOLDS as the ROUND begins, until it tells another number for a REGION");
        Wavesale w = Sales.opened(5, 1, 6);
        w.wish(5, 4, 1);
        w.wish(0, 0, 1);
        w.wish(1, 0, 1);
        w.close(1);
        w.wish(5, 4, 0);
        CHECK.same("it wishes nothing", w.ofRegion(4, 6), 0);
        w.close(1);
        CHECK.same("it holds that still", w.ofBidder(5, 5), 1296);
        CHECK.same("and wishes that again", w.ofBidder(5, 6), 1296);
        CHECK.same("as do all together", w.ofRegion(4, 6), 1);
    }

    private static void waivePlaces() {
        CHECK.promise(9, "Throws `IndexOutOfBoundsException` if there is no such BIDDER");
        Wavesale none = new Wavesale();
        CHECK.noPlace("of nobody", none, () -> none.waive(0));
        for (int stage = 0; stage <= 3; stage++) {
            Wavesale w = Sales.inStage(stage);
            for (int far : new int[] {2, -1, Integer.MIN_VALUE, Integer.MAX_VALUE}) {
                CHECK.noPlace("bidder " + far + " in stage " + stage, w, () -> w.waive(far));
            }
        }
        Wavesale full = Sales.opened(1, 1, 6);
        CHECK.same("the last", full.waive(5), 1);
        CHECK.same("the first", full.waive(0), 1);
        CHECK.noPlace("the seventh", full, () -> full.waive(6));
    }

    private static void waiveStages() {
        CHECK.promise(9, "Throws `IllegalStateException` if it is not STAGE 1, it has no WAIVER, or it WAIVED in this ROUND");
        for (int stage : new int[] {0, 2, 3}) {
            Wavesale w = Sales.inStage(stage);
            CHECK.noState("stage " + stage, w, () -> w.waive(1));
            CHECK.same("waivers", w.ofBidder(1, 4), 2);
        }
        CHECK.promise(9, "Returns how many WAIVERS it has then.");
        CHECK.same("stage 1", Sales.inStage(1).waive(1), 1);
    }

    private static void waiveOnceARound() {
        CHECK.part(2, "A BIDDER can WAIVE in a ROUND, once a ROUND, as long as it has a WAIVER (that is one less then).");
        Wavesale w = Sales.opened(1, 1, 3);
        w.wish(0, 0, 1);
        w.wish(1, 0, 1);
        CHECK.same("the first", w.waive(2), 1);
        CHECK.noState("twice in a round", w, () -> w.waive(2));
        CHECK.noState("and once more", w, () -> w.waive(2));
        CHECK.same("waivers", w.ofBidder(2, 4), 1);
        w.close(1);
        CHECK.same("in the next round", w.waive(2), 0);
        CHECK.noState("twice in that", w, () -> w.waive(2));
        CHECK.same("waivers of another", w.ofBidder(1, 4), 2);
    }

    private static void waiveAsLongAsThereIsOne() {
        CHECK.part(2, "as long as it has a WAIVER (that is one less then)");
        Wavesale w = Sales.opened(1, 1, 3);
        w.wish(0, 0, 1);
        w.wish(1, 0, 1);
        w.waive(2);
        w.close(1);
        w.waive(2);
        w.close(1);
        CHECK.same("none is left", w.ofBidder(2, 4), 0);
        CHECK.noState("a third", w, () -> w.waive(2));
        w.close(1);
        CHECK.noState("a third in a later round", w, () -> w.waive(2));
        CHECK.same("another has two still", w.waive(1), 1);
    }

    private static void waiveForOneRound() {
        CHECK.part(2, "and it has not WAIVED in this ROUND");
        Wavesale one = Sales.opened(1, 1, 3);
        one.wish(0, 0, 1);
        one.wish(1, 0, 1);
        one.waive(2);
        one.close(1);
        CHECK.same("eligible as before", one.ofBidder(2, 1), 9);
        Wavesale two = Sales.opened(1, 1, 3);
        two.wish(0, 0, 1);
        two.wish(1, 0, 1);
        two.waive(2);
        two.close(2);
        CHECK.same("not in the second round", two.ofBidder(2, 1), 0);
        CHECK.same("which takes no waiver", two.ofBidder(2, 4), 1);
    }

    private static void closeNumbers() {
        CHECK.promise(10, "Throws `IllegalArgumentException` if rounds is not 1 to 9");
        for (int stage = 0; stage <= 3; stage++) {
            Wavesale w = Sales.inStage(stage);
            CHECK.noArgument("0 in stage " + stage, w, () -> w.close(0));
            CHECK.noArgument("10 in stage " + stage, w, () -> w.close(10));
            for (int far : Sales.FAR_OFF) {
                CHECK.noArgument(far + " in stage " + stage, w, () -> w.close(far));
            }
        }
        Wavesale w = Sales.opened(1, 1, 2);
        w.wish(0, 0, 1);
        w.wish(1, 0, 1);
        w.close(1);
        CHECK.same("1", w.sale(15), 1);
        w.close(9);
        CHECK.same("9", w.sale(15), 10);
    }

    private static void closeStages() {
        CHECK.promise(10, "Throws `IllegalStateException` if it is not STAGE 1");
        for (int stage : new int[] {0, 2, 3}) {
            Wavesale w = Sales.inStage(stage);
            CHECK.noState("1 in stage " + stage, w, () -> w.close(1));
            CHECK.noState("9 in stage " + stage, w, () -> w.close(9));
            CHECK.same("rounds of the log", w.sale(15), stage == 0 ? 0 : 1);
        }
        CHECK.promise(10, "Returns STAGE then.");
        CHECK.same("of stage 1, without excess", Sales.inStage(1).close(1), 2);
        Wavesale w = Sales.opened(1, 1, 2);
        w.wish(0, 0, 1);
        w.wish(1, 0, 1);
        CHECK.same("of stage 1, with excess", w.close(1), 1);
    }

    private static void closeSoMany() {
        CHECK.promise(10, "CLOSES ROUNDS, one by one, until so many are CLOSED, or the CLOCK is over.");
        for (int rounds = 1; rounds <= 9; rounds++) {
            Wavesale w = Sales.opened(1, 1, 2);
            w.wish(0, 0, 1);
            w.wish(1, 0, 1);
            CHECK.same("stage behind " + rounds, w.close(rounds), 1);
            CHECK.same("rounds of the log", w.sale(15), rounds);
            CHECK.same("round", w.sale(1), rounds + 1);
        }
    }

    private static void closeUntilOver() {
        CHECK.promise(10, "CLOSES ROUNDS, one by one, until so many are CLOSED, or the CLOCK is over.");
        Wavesale nobody = Sales.opened(5, 5, 6);
        CHECK.same("nobody wishes anything", nobody.close(9), 2);
        CHECK.same("one round", nobody.sale(15), 1);
        CHECK.same("the last one that was closed", nobody.sale(1), 1);
        Wavesale w = Sales.opened(1, 1, 2);
        w.wish(0, 0, 1);
        w.wish(1, 0, 1);
        for (int k = 0; k < 5; k++) {
            w.close(9);
        }
        CHECK.same("from 45 to 51", w.close(6), 1);
        CHECK.same("from 51 to 60", w.close(9), 2);
        CHECK.same("sixty", w.sale(15), 60);
        CHECK.noState("no more", w, () -> w.close(1));
        Wavesale v = Sales.opened(1, 1, 2);
        v.wish(0, 0, 1);
        v.wish(1, 0, 1);
        for (int k = 0; k < 6; k++) {
            v.close(9);
        }
        CHECK.same("from 54 to 59", v.close(5), 1);
        CHECK.same("round", v.sale(1), 60);
        CHECK.same("nine from 59 on", v.close(9), 2);
        CHECK.same("sixty at most", v.sale(15), 60);
    }

    private static void closeFurtherRounds() {
        CHECK.promise(10, "(In further ones each BIDDER WISHES what it HOLDS.)");
        Wavesale w = eligibleForNothing(0);
        w.wish(0, 0, 0);
        w.close(2);
        CHECK.same("it wished nothing", w.codeIn(3, 0, false), 0);
        CHECK.same("it held two behind that", w.codeIn(3, 0, true), 2);
        CHECK.same("which it wished in the further one", w.codeIn(4, 0, false), 2);
    }

    /** Both regions have risen from 1 to 2, and the first bidder holds one of the first region. */
    private static Wavesale bothRisen(boolean isRule) {
        Wavesale w = new Wavesale();
        w.region(1, 1, 1);
        w.region(1, 1, 1);
        for (int k = 0; k < 3; k++) {
            w.bidder(900, 9, 0, 0);
        }
        w.rules(5, isRule);
        w.open();
        w.wish(0, 0, 1);
        w.waive(0);
        for (int k = 1; k < 3; k++) {
            w.wish(k, 0, 1);
            w.wish(k, 1, 1);
        }
        w.close(1);
        return w;
    }

    private static void contradictionOfNothing() {
        CHECK.part(2, "(PRICE now - PRICE in s) * (what it WISHES - what it HELD behind s) is above 0");
        Wavesale w = bothRisen(true);
        w.wish(0, 0, 0);
        w.wish(0, 1, 1);
        CHECK.same("a sum of 0", w.contradicts(0), -1);
        w.close(1);
        CHECK.same("none is counted", w.ofBidder(0, 10), 0);
        CHECK.same("it holds what it wished", w.ofBidder(0, 5), 6);
        Wavesale v = bothRisen(true);
        v.wish(0, 0, 0);
        CHECK.same("a sum of -1", v.contradicts(0), -1);
        v.close(1);
        CHECK.same("it holds nothing", v.ofBidder(0, 5), 0);
    }

    private static void contradictionOfOne() {
        CHECK.part(2, "then it WISHES what it HOLDS");
        Wavesale w = bothRisen(true);
        w.wish(0, 1, 1);
        CHECK.same("a sum of 1", w.contradicts(0), 1);
        w.close(1);
        CHECK.same("it is counted", w.ofBidder(0, 10), 1);
        CHECK.same("it holds what it held", w.ofBidder(0, 5), 1);
        CHECK.same("the log has what it wished ahead of that", w.codeIn(2, 0, false), 7);
        CHECK.same("no activity but that", w.ofBidder(0, 1), 1);
    }

    private static void contradictionAheadOfThisRound() {
        CHECK.part(2, "if for one ROUND s ahead of this one");
        Wavesale w = bothRisen(true);
        CHECK.same("in round 1 there was none ahead", w.sale(8), 0);
        CHECK.same("what all hold is no contradiction", w.contradicts(1), -1);
        Wavesale first = Sales.opened(2, 5, 1);
        first.wish(0, 0, 5);
        CHECK.same("no round at all", first.contradicts(0), -1);
    }

    private static void contradictionCounted() {
        CHECK.part(2, "(CONTRADICTIONS are counted, one for a BIDDER in a ROUND, also if it WISHES just what it HOLDS)");
        Wavesale w = bothRisen(true);
        w.waive(0);
        w.close(1);
        CHECK.same("none yet", w.sale(8), 0);
        w.wish(0, 1, 1);
        w.close(1);
        CHECK.same("rounds 1 and 2 alike, and one", w.ofBidder(0, 10), 1);
        CHECK.same("of all", w.sale(8), 1);
        CHECK.same("none of another", w.ofBidder(1, 10), 0);
    }

    private static void contradictionOfWhatItHolds() {
        CHECK.part(2, "also if it WISHES just what it HOLDS");
        Wavesale w = new Wavesale();
        w.region(1, 1, 1);
        w.region(1, 1, 1);
        for (int k = 0; k < 3; k++) {
            w.bidder(900, 9, 0, 0);
        }
        w.open();
        w.wish(0, 0, 1);
        w.wish(1, 0, 1);
        w.wish(1, 1, 1);
        w.wish(2, 1, 1);
        w.close(1);
        w.wish(0, 0, 0);
        w.wish(0, 1, 1);
        w.close(1);
        CHECK.same("it went over without one", w.sale(8), 0);
        w.close(1);
        CHECK.same("it wished what it held", w.codeIn(3, 0, false), 6);
        CHECK.same("but in round 1 it held the other", w.ofBidder(0, 10), 1);
        w.close(9);
        CHECK.same("one in each round", w.sale(8), 10);
    }

    private static void contradictionOfTheLastOne() {
        CHECK.part(2, "CONTRADICTIONS are counted");
        Wavesale w = Sales.opened(5, 1, 6);
        for (int k = 3; k < 6; k++) {
            w.wish(k, k < 5 ? 4 : 0, 1);
            w.waive(k);
        }
        w.close(1);
        w.wish(5, 4, 1);
        CHECK.same("it does", w.contradicts(5), 1);
        w.close(1);
        CHECK.same("its own", w.ofBidder(5, 10), 1);
        CHECK.same("of all", w.sale(8), 1);
        CHECK.same("it holds what it held", w.ofBidder(5, 5), 1);
    }

    private static void contradictionWithoutRule() {
        CHECK.part(2, "if the RULE is on (it is, at first; told in STAGE 0)");
        Wavesale w = bothRisen(false);
        w.wish(0, 1, 1);
        CHECK.same("it does contradict itself", w.contradicts(0), 1);
        w.close(1);
        CHECK.same("none is counted", w.sale(8), 0);
        CHECK.same("it holds what it wished", w.ofBidder(0, 5), 7);
    }

    private static void activityJustEnough() {
        CHECK.part(2, "if 10 * ACTIVITY is less than 8 * ELIGIBLE");
        int[] eligible = {5, 5, 10, 10, 1, 2, 6};
        int[] activity = {4, 3, 8, 7, 1, 1, 5};
        int[] then = {5, 3, 10, 8, 1, 1, 6};
        for (int k = 0; k < eligible.length; k++) {
            Wavesale w = new Wavesale();
            w.region(5, 1, 10);
            w.region(5, 1, 10);
            w.bidder(0, eligible[k], 0, 0);
            w.open();
            w.wish(0, 0, Math.min(5, activity[k]));
            w.wish(0, 1, Math.max(0, activity[k] - 5));
            CHECK.same("activity", w.ofBidder(0, 7), activity[k]);
            w.close(1);
            CHECK.same(activity[k] + " of " + eligible[k], w.ofBidder(0, 1), then[k]);
        }
    }

    private static void activityOfMany() {
        CHECK.part(2, "it is ELIGIBLE for 10 * ACTIVITY / 8 from then on");
        Wavesale w = new Wavesale();
        for (int k = 0; k < 4; k++) {
            w.region(5, 8, 1);
        }
        w.region(5, 7, 1);
        w.bidder(0, 200, 0, 0);
        w.bidder(0, 200, 0, 0);
        w.open();
        for (int k = 0; k < 4; k++) {
            w.wish(0, k, 5);
            w.wish(1, k, k == 3 ? 4 : 5);
        }
        w.wish(1, 4, 1);
        w.close(1);
        CHECK.same("160 of 200", w.ofBidder(0, 1), 200);
        CHECK.same("159 of 200", w.ofBidder(1, 1), 198);
    }

    /** Of 160 to 200 points all are enough, though 10 eighths of these are more than 200. */
    private static void activityNeverMakesMore() {
        CHECK.part(2, "if 10 * ACTIVITY is less than 8 * ELIGIBLE");
        for (int points = 1; points <= 8; points++) {
            Wavesale w = new Wavesale();
            for (int region = 0; region < 4; region++) {
                w.region(5, 8, 1);
            }
            w.region(5, points, 1);
            w.bidder(0, 200, 0, 0);
            w.open();
            for (int region = 0; region < 5; region++) {
                w.wish(0, region, 5);
            }
            CHECK.same("activity", w.ofBidder(0, 7), 160 + 5 * points);
            w.close(1);
            CHECK.same("eligible with " + (160 + 5 * points), w.ofBidder(0, 1), 200);
        }
    }

    private static void activityFromThenOn() {
        CHECK.part(2, "it is ELIGIBLE for 10 * ACTIVITY / 8 from then on");
        Wavesale w = Sales.prepared(1, 5, 0);
        w.bidder(0, 5, 0, 0);
        w.bidder(0, 5, 0, 0);
        w.open();
        w.wish(0, 0, 3);
        w.wish(1, 0, 4);
        w.close(1);
        CHECK.same("3 of 5", w.ofBidder(0, 1), 3);
        CHECK.noState("4 of 3", w, () -> w.wish(0, 0, 4));
        CHECK.same("5 of 5, behind 4 of 5", w.wish(1, 0, 5), 5);
        w.close(1);
        CHECK.same("it stays", w.ofBidder(0, 1), 3);
    }

    private static void activityOfNothing() {
        CHECK.part(2, "ACTIVITY is POINTS of all that it WISHES together");
        Wavesale w = Sales.opened(1, 1, 3);
        w.wish(0, 0, 1);
        w.wish(1, 0, 1);
        CHECK.same("activity of nothing", w.ofBidder(2, 7), 0);
        w.close(1);
        CHECK.same("eligible for nothing", w.ofBidder(2, 1), 0);
        w.close(9);
        CHECK.same("no less than that", w.ofBidder(2, 1), 0);
        CHECK.isTrue("sound with it", w.isSound());
        CHECK.noState("no wish any more", w, () -> w.wish(2, 0, 1));
        CHECK.same("but for nothing", w.wish(2, 0, 0), 0);
    }

    private static void activityWaived() {
        CHECK.part(2, "and it has not WAIVED in this ROUND");
        Wavesale w = Sales.opened(1, 1, 3);
        w.wish(0, 0, 1);
        w.wish(1, 0, 1);
        w.waive(0);
        w.waive(2);
        w.close(1);
        CHECK.same("1 of 9 with a waiver", w.ofBidder(0, 1), 9);
        CHECK.same("1 of 9 without", w.ofBidder(1, 1), 1);
        CHECK.same("0 of 9 with a waiver", w.ofBidder(2, 1), 9);
    }

    private static void holdsWhatItWishes() {
        CHECK.part(2, "each BIDDER that WISHES as much as it HOLDS, or more, HOLDS that");
        Wavesale w = Sales.opened(5, 5, 6);
        for (int k = 0; k < 6; k++) {
            w.wish(k, 0, 5);
        }
        w.wish(0, 4, 1);
        w.close(1);
        CHECK.same("all of it, each", w.ofRegion(0, 4), 30);
        CHECK.same("less supply", w.ofRegion(0, 5), 25);
        CHECK.same("the first", w.ofBidder(0, 5), 5 + 1296);
        CHECK.same("the last", w.ofBidder(5, 5), 5);
        w.close(1);
        CHECK.same("as much as it holds", w.ofRegion(0, 4), 30);
    }

    private static void goesToItsEnd() {
        CHECK.part(2, "then BIDDER by BIDDER that WISHES less (each to its end)");
        Wavesale w = Sales.opened(1, 2, 2);
        w.wish(0, 0, 2);
        w.wish(1, 0, 2);
        w.close(1);
        w.wish(0, 0, 0);
        w.wish(1, 0, 0);
        w.close(1);
        CHECK.same("the first, both of its two", w.wants(0, 0, true), 0);
        CHECK.same("the second none", w.wants(1, 0, true), 2);
        CHECK.same("the clock is over", w.sale(0), 2);
    }

    private static void goesAsLongAsThereIsExcess() {
        CHECK.part(2, "as long as all together HOLD more than SUPPLY and it HOLDS more than it WISHES");
        Wavesale w = Sales.opened(1, 3, 2);
        w.wish(0, 0, 2);
        w.wish(1, 0, 2);
        w.close(1);
        w.wish(0, 0, 0);
        w.close(1);
        CHECK.same("one of two", w.wants(0, 0, true), 1);
        CHECK.same("no more than supply then", w.ofRegion(0, 5), 0);
        Wavesale none = eligibleForNothing(0);
        CHECK.same("without excess it keeps all", none.codeIn(2, 0, true), 2);
    }

    private static void goesToWhatItWishes() {
        CHECK.part(2, "as long as all together HOLD more than SUPPLY and it HOLDS more than it WISHES");
        Wavesale v = Sales.opened(1, 2, 3);
        for (int k = 0; k < 3; k++) {
            v.wish(k, 0, 2);
        }
        v.close(1);
        v.wish(0, 0, 1);
        v.wish(1, 0, 1);
        v.close(1);
        CHECK.same("the first as far as it wishes", v.wants(0, 0, true), 1);
        CHECK.same("the second too", v.wants(1, 0, true), 1);
        CHECK.same("who wishes no less stays", v.wants(2, 0, true), 2);
        CHECK.same("there is excess still", v.ofRegion(0, 5), 2);
        CHECK.same("the clock runs on", v.sale(0), 1);
    }
}
