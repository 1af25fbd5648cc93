/** Promises 11 to 13, 24 to 26 and 30 to 32: packages, winners, payments, defaults. */
public final class PackagesTest {
    private static final Check CHECK = new Check("PackagesTest");
    private static final int A = 1;
    private static final int B = 6;
    private static final int C = 36;

    public static void main(String[] args) {
        promise11Offer();
        promise11Limits();
        promise12Settle();
        promise13Fail();
        promise13FindsAnewByTheSameWay();
        promise24OfPackage();
        promise25Wins();
        promise25Ties();
        promise25Groups();
        promise25AgainstAllChoices();
        promise26Pays();
        promise30Worth();
        promise31Harm();
        promise31Core();
        promise31CoreWithOneWhoPaysAll();
        promise31CoreTurnByTurn();
        promise31CoreWithManyWhoPayAll();
        promise31CoreOfSeveralSets();
        promise32Objects();
        CHECK.end();
    }

    /** Packages are told: each region is of one block for 10, and nobody wished anything. */
    private static Wavesale told(int regions, int bidders) {
        return told(regions, 1, bidders);
    }

    private static Wavesale told(int regions, int supply, int bidders) {
        Wavesale w = new Wavesale();
        for (int k = 0; k < regions; k++) {
            w.region(supply, 1, 10);
        }
        for (int k = 0; k < bidders; k++) {
            w.bidder(90000, 9, 5 * k, 0);
        }
        w.open();
        w.close(1);
        return w;
    }

    private static void promise11Offer() {
        Wavesale w = told(2, 2, 2);
        CHECK.same("first package", w.offer(0, A, 50), 0);
        CHECK.same("second package", w.offer(0, A, 50), 1);
        CHECK.same("package of another", w.offer(1, B + A, 70), 0);
        CHECK.same("packages", w.ofBidder(0, 8), 2);
        CHECK.same("what wins is found anew", w.sale(10), 120);
        CHECK.noPlace("nobody", () -> w.offer(2, A, 50));
        CHECK.noPlace("-1", () -> w.offer(-1, A, 50));
        CHECK.noPlace("nobody, and no code", () -> w.offer(2, -1, -1));
        CHECK.noArgument("code below 0", () -> w.offer(0, -1, 50));
        CHECK.noArgument("code of a region that is not there", () -> w.offer(0, 36, 50));
        CHECK.noArgument("code far off", () -> w.offer(0, Integer.MAX_VALUE, 50));
        CHECK.noArgument("amount below 0", () -> w.offer(0, A, -1));
        CHECK.noState("nothing", () -> w.offer(0, 0, 50));
        CHECK.noState("for nothing", () -> w.offer(0, A, 0));
        CHECK.same("packages behind wrong ones", w.ofBidder(0, 8), 2);
        for (int k = 2; k < 6; k++) {
            CHECK.same("package " + k, w.offer(0, A, 50 + k), k);
        }
        CHECK.noState("seventh package", () -> w.offer(0, A, 50));
        CHECK.noArgument("seventh package without a code", () -> w.offer(0, 36, 50));
        w.settle(0);
        CHECK.noState("package of a settled sale", () -> w.offer(1, A, 50));
        Wavesale early = new Wavesale();
        early.region(1, 1, 1);
        early.bidder(100, 1, 0, 0);
        CHECK.noState("package before the opening", () -> early.offer(0, A, 50));
        early.open();
        CHECK.noState("package while the clock runs", () -> early.offer(0, A, 50));
        CHECK.noArgument("no package while the clock runs", () -> early.offer(0, 6, 50));
        early.wish(0, 0, 1);
        early.close(1);
        for (int k = 1; k < 6; k++) {
            CHECK.same("with one from the clock", early.offer(0, A, 50), k);
        }
        CHECK.noState("six with that one", () -> early.offer(0, A, 50));
    }

    private static void promise11Limits() {
        Wavesale w = new Wavesale();
        w.region(5, 1, 10);
        w.region(2, 1, 7);
        w.bidder(60, 9, 0, 0);
        w.bidder(0, 9, 0, 0);
        w.rules(3, true);
        w.open();
        w.close(1);
        CHECK.noState("above cap", () -> w.offer(0, 4, 60));
        CHECK.noState("above supply", () -> w.offer(0, 18, 60));
        CHECK.noState("below start prices", () -> w.offer(0, 3 + 12, 43));
        CHECK.noState("above budget", () -> w.offer(0, 3 + 12, 61));
        CHECK.noState("no budget at all", () -> w.offer(1, 6, 7));
        CHECK.same("start prices", w.offer(0, 3 + 12, 44), 0);
        CHECK.same("budget", w.offer(0, 3 + 12, 60), 1);
        CHECK.same("packages of who has no budget", w.ofBidder(1, 8), 0);
    }

    private static void promise12Settle() {
        Wavesale w = told(2, 3);
        w.offer(0, A, 50);
        w.offer(1, B, 40);
        w.offer(2, A + B, 80);
        CHECK.noArgument("way -1", () -> w.settle(-1));
        CHECK.noArgument("way 3", () -> w.settle(3));
        CHECK.same("stage still", w.sale(0), 2);
        CHECK.same("winners", w.settle(1), 2);
        CHECK.same("stage", w.sale(0), 3);
        CHECK.same("payment that is kept", w.pays(0, false), 40);
        CHECK.noState("settled already", () -> w.settle(1));
        CHECK.noArgument("no way of a settled sale", () -> w.settle(3));
        CHECK.same("way as before", w.pays(0, false), 40);
        Wavesale v = new Wavesale();
        CHECK.noState("settle at first", () -> v.settle(0));
        CHECK.noArgument("no way at first", () -> v.settle(3));
        v.region(1, 1, 1);
        v.bidder(100, 1, 0, 0);
        v.open();
        CHECK.noState("settle while the clock runs", () -> v.settle(0));
        v.close(1);
        CHECK.same("no winner", v.settle(2), 0);
    }

    private static void promise13Fail() {
        Wavesale w = told(2, 4);
        CHECK.noState("default ahead of the settling", () -> w.fail(0));
        CHECK.noPlace("default of nobody ahead of the settling", () -> w.fail(4));
        w.offer(0, A, 59);
        CHECK.same("a winner ahead of the settling", w.wins(0), 0);
        CHECK.noState("its default ahead of the settling", () -> w.fail(0));
        w.offer(0, A, 50);
        w.offer(1, B, 40);
        w.offer(2, A + B, 80);
        w.settle(0);
        CHECK.noPlace("default of nobody", () -> w.fail(4));
        CHECK.noPlace("default of -1", () -> w.fail(-1));
        CHECK.noState("default of no winner", () -> w.fail(2));
        CHECK.noState("default of who offered nothing", () -> w.fail(3));
        CHECK.same("nothing is kept by that", w.sale(12), 0);
        CHECK.same("deposit", w.fail(0), 5);
        CHECK.same("it is out", w.ofBidder(0, 9), 1);
        CHECK.same("another one is not", w.ofBidder(1, 9), 0);
        CHECK.same("it wins no longer", w.wins(0), -1);
        CHECK.same("nor the one that was with it", w.wins(1), -1);
        CHECK.same("the other one does", w.wins(2), 0);
        CHECK.same("it pays", w.pays(2, false), 80);
        CHECK.same("chart", w.chart(0), "2");
        CHECK.noState("default twice", () -> w.fail(0));
        CHECK.same("second deposit", w.fail(2), 8);
        CHECK.same("deposits", w.sale(12), 13);
        CHECK.same("the last one wins", w.wins(1), 0);
        CHECK.same("third deposit", w.fail(1), 4);
        CHECK.same("nobody is left", w.sale(9), 0);
        CHECK.same("worth of who is out", w.worth(15), 0);
        CHECK.same("chart of nobody", w.chart(0), "-");
        CHECK.same("stage", w.sale(0), 3);
        CHECK.same("packages stay", w.ofBidder(0, 8), 2);
        CHECK.same("deposits of all", w.sale(12), 17);
    }

    private static void promise13FindsAnewByTheSameWay() {
        int[] ofThird = {90, 71, 80};
        int[] ofFirst = {60, 41, 51};
        for (int way = 0; way < 3; way++) {
            Wavesale w = told(2, 4);
            w.offer(0, A, 100);
            w.offer(1, B, 60);
            w.offer(2, A + B, 131);
            w.offer(3, A, 90);
            w.settle(way);
            w.fail(0);
            CHECK.same("the next one wins", w.wins(3), 0);
            CHECK.same("payment anew by way " + way, w.pays(3, false), ofThird[way]);
            CHECK.same("and the other one's by way " + way, w.pays(1, false), ofFirst[way]);
        }
    }

    private static void promise24OfPackage() {
        Wavesale w = told(3, 2, 2);
        w.offer(0, 2 * C + B, 77);
        w.offer(0, A, 33);
        CHECK.same("amount", w.ofPackage(0, 0, true), 77);
        CHECK.same("code", w.ofPackage(0, 0, false), 78);
        CHECK.same("amount of the second", w.ofPackage(0, 1, true), 33);
        CHECK.same("code of the second", w.ofPackage(0, 1, false), 1);
        CHECK.noPlace("no third package", () -> w.ofPackage(0, 2, true));
        CHECK.noPlace("package -1", () -> w.ofPackage(0, -1, true));
        CHECK.noPlace("no package", () -> w.ofPackage(1, 0, false));
        CHECK.noPlace("nobody", () -> w.ofPackage(2, 0, false));
        CHECK.noPlace("bidder -1", () -> w.ofPackage(-1, 0, false));
        w.settle(0);
        CHECK.same("amount behind the settling", w.ofPackage(0, 0, true), 77);
    }

    private static void promise25Wins() {
        Wavesale w = told(2, 3);
        CHECK.same("without packages", w.wins(0), -1);
        w.offer(0, A, 50);
        CHECK.same("alone", w.wins(0), 0);
        w.offer(1, A + B, 70);
        CHECK.same("more is offered", w.wins(0), -1);
        CHECK.same("by another", w.wins(1), 0);
        w.offer(2, A, 10);
        w.offer(2, B, 21);
        CHECK.same("together they offer more", w.wins(0), 0);
        CHECK.same("with the second package", w.wins(2), 1);
        CHECK.same("the one alone has lost", w.wins(1), -1);
        CHECK.same("winners", w.sale(9), 2);
        CHECK.noPlace("nobody", () -> w.wins(3));
        CHECK.noPlace("-1", () -> w.wins(-1));
        w.settle(1);
        CHECK.same("as it is kept", w.wins(2), 1);
        Wavesale v = new Wavesale();
        v.region(1, 1, 1);
        v.bidder(1, 1, 0, 0);
        CHECK.same("at first", v.wins(0), -1);
        v.open();
        v.wish(0, 0, 1);
        CHECK.same("while the clock runs", v.wins(0), -1);
        v.close(1);
        CHECK.same("from the clock", v.wins(0), 0);
    }

    private static void promise25Ties() {
        Wavesale w = told(2, 3);
        w.offer(0, A, 50);
        w.offer(1, A, 50);
        CHECK.same("none is ahead of a package", w.wins(0), -1);
        CHECK.same("so the other one wins", w.wins(1), 0);
        w.offer(1, B, 50);
        CHECK.same("both win now", w.wins(0), 0);
        CHECK.same("with the second", w.wins(1), 1);
        w.offer(0, B, 50);
        CHECK.same("the smaller number for the first", w.wins(0), 0);
        CHECK.same("and so the second for the other one", w.wins(1), 1);
        Wavesale one = told(1, 1);
        one.offer(0, A, 50);
        one.offer(0, A, 50);
        CHECK.same("the smaller number of the same", one.wins(0), 0);
        one.offer(0, A, 51);
        CHECK.same("the greater amount", one.wins(0), 2);
        Wavesale sets = told(2, 3);
        sets.offer(0, A + B, 100);
        sets.offer(1, A, 50);
        sets.offer(2, B, 50);
        CHECK.same("two for the same, without the first", sets.wins(0), -1);
        CHECK.same("the second", sets.wins(1), 0);
        CHECK.same("the third", sets.wins(2), 0);
        Wavesale later = told(2, 3);
        later.offer(0, A, 50);
        later.offer(1, B, 50);
        later.offer(2, B, 50);
        CHECK.same("the first in any case", later.wins(0), 0);
        CHECK.same("none for the second", later.wins(1), -1);
        CHECK.same("the third for it", later.wins(2), 0);
    }

    private static void promise25Groups() {
        Wavesale w = new Wavesale();
        w.region(5, 1, 10);
        w.region(2, 1, 10);
        w.bidder(900, 9, 0, 1);
        w.bidder(900, 9, 0, 1);
        w.bidder(900, 9, 0, 0);
        w.bidder(900, 9, 0, 0);
        w.bidder(900, 9, 0, 2);
        w.rules(2, true);
        w.open();
        w.close(1);
        w.offer(0, 1, 50);
        w.offer(1, 2, 60);
        CHECK.same("no group has more than cap", w.wins(0), -1);
        CHECK.same("the greater amount", w.wins(1), 0);
        CHECK.same("worth", w.sale(10), 60);
        w.offer(1, 1, 20);
        CHECK.same("together they are within cap", w.wins(0), 0);
        CHECK.same("with less", w.wins(1), 1);
        w.offer(2, 2, 30);
        w.offer(3, 1, 30);
        CHECK.same("no group is no group", w.sale(9), 4);
        w.offer(4, 2, 25);
        CHECK.same("supply binds all", w.wins(4), -1);
        w.offer(4, 12, 25);
        CHECK.same("cap is one of a region", w.wins(4), 1);
        CHECK.same("worth of these", w.sale(10), 155);
        lastGroup();
    }

    private static void lastGroup() {
        Wavesale w = new Wavesale();
        w.region(5, 1, 10);
        w.bidder(900, 9, 0, 3);
        w.bidder(900, 9, 0, 2);
        w.bidder(900, 9, 0, 3);
        w.rules(2, true);
        w.open();
        w.close(1);
        w.offer(0, 2, 50);
        w.offer(1, 2, 20);
        w.offer(2, 1, 49);
        CHECK.same("two groups, and one of each", w.sale(10), 70);
        CHECK.same("no second one of group 3", w.wins(2), -1);
    }

    /** The first of the greatest, told package by package, so that each order of coming is tried. */
    private static void promise25AgainstAllChoices() {
        Wavesale w = told(3, 2, 6);
        int[] codes = {A, B, C, A + B, B + C, A + C, 2 * A, 2 * B + C, A + B + C, 2 * C};
        int sum = 0;
        for (int k = 0; k < 36; k++) {
            w.offer(k * 5 % 6, codes[k * 7 % 10], 100 + k * 37 % 50);
            sum = sum * 31 + w.sale(10) + 7 * w.wins(k % 6);
        }
        Model m = new Model();
        for (int k = 0; k < 3; k++) {
            m.region(2, 1, 10);
        }
        for (int k = 0; k < 6; k++) {
            m.bidder(90000, 9, 5 * k, 0);
        }
        m.open();
        m.close(1);
        int due = 0;
        for (int k = 0; k < 36; k++) {
            m.offer(k * 5 % 6, codes[k * 7 % 10], 100 + k * 37 % 50);
            due = due * 31 + m.sale(10) + 7 * m.wins(k % 6);
        }
        CHECK.same("winners on the way to 36 packages", sum, due);
        CHECK.same("digest with 36 packages", w.digest(), m.digest());
    }

    private static void promise26Pays() {
        Wavesale w = told(2, 3);
        w.offer(0, A, 50);
        w.offer(1, A + B, 47);
        w.offer(2, B, 43);
        CHECK.same("ahead of the settling", w.pays(2, false), 0);
        CHECK.same("due ahead of the settling", w.pays(2, true), 0);
        w.settle(0);
        CHECK.same("payment", w.pays(2, false), 43);
        CHECK.same("due, with a credit of 10", w.pays(2, true), 38);
        CHECK.same("payment without credit", w.pays(0, false), 50);
        CHECK.same("due without credit", w.pays(0, true), 50);
        CHECK.same("who is no winner", w.pays(1, false), 0);
        CHECK.same("due of who is no winner", w.pays(1, true), 0);
        CHECK.same("due of all", w.sale(11), 88);
        CHECK.noPlace("nobody", () -> w.pays(3, true));
        CHECK.noPlace("-1", () -> w.pays(-1, true));
    }

    private static void promise30Worth() {
        Wavesale w = told(2, 3);
        w.offer(0, A, 50);
        w.offer(1, B, 40);
        w.offer(2, A + B, 100);
        w.offer(2, B, 45);
        int[] due = {0, 50, 40, 90, 100, 100, 100, 100};
        for (int set = 0; set < 8; set++) {
            CHECK.same("worth of " + set, w.worth(set), due[set]);
        }
        CHECK.noArgument("set below 0", () -> w.worth(-1));
        CHECK.noArgument("one who is not there", () -> w.worth(8));
        CHECK.noArgument("none who is there", () -> w.worth(Integer.MAX_VALUE));
        w.settle(0);
        w.fail(2);
        CHECK.same("worth without who is out", w.worth(7), 90);
        CHECK.same("worth of who is out", w.worth(4), 0);
        Wavesale early = new Wavesale();
        early.region(1, 1, 1);
        early.bidder(1, 1, 0, 0);
        CHECK.same("worth at first", early.worth(1), 0);
        CHECK.noArgument("one who is not there at first", () -> early.worth(2));
        early.open();
        early.wish(0, 0, 1);
        CHECK.same("worth while the clock runs", early.worth(1), 0);
    }

    private static void promise31Harm() {
        Wavesale w = told(2, 4);
        w.offer(0, A, 50);
        w.offer(1, A, 30);
        w.offer(2, B, 40);
        CHECK.same("amount", w.wouldPay(0, 0), 50);
        CHECK.same("harm to another", w.wouldPay(0, 1), 30);
        CHECK.same("harm to nobody", w.wouldPay(2, 1), 0);
        CHECK.same("no winner by its amount", w.wouldPay(1, 0), 0);
        CHECK.same("no winner by harm", w.wouldPay(1, 1), 0);
        CHECK.same("no winner by the core", w.wouldPay(1, 2), 0);
        CHECK.noPlace("nobody", () -> w.wouldPay(4, 0));
        CHECK.noPlace("-1", () -> w.wouldPay(-1, 0));
        CHECK.noPlace("nobody, by no way", () -> w.wouldPay(4, 3));
        CHECK.noArgument("way 3", () -> w.wouldPay(0, 3));
        CHECK.noArgument("way -1", () -> w.wouldPay(0, -1));
        w.settle(0);
        CHECK.same("kept by amounts", w.pays(0, false), 50);
        CHECK.same("as if it was settled by harm now", w.wouldPay(0, 1), 30);
        w.fail(0);
        CHECK.same("no harm to who is out", w.wouldPay(1, 1), 0);
        Wavesale early = new Wavesale();
        early.region(1, 1, 1);
        early.bidder(1, 1, 0, 0);
        CHECK.same("at first", early.wouldPay(0, 0), 0);
        early.open();
        CHECK.same("while the clock runs", early.wouldPay(0, 2), 0);
    }

    /** 29 are missing: 14 turns of both, and 1 more of the smallest number. */
    private static void promise31Core() {
        Wavesale w = told(2, 3);
        w.offer(0, A, 100);
        w.offer(1, B, 60);
        w.offer(2, A + B, 131);
        CHECK.same("harm of the first", w.wouldPay(0, 1), 71);
        CHECK.same("harm of the second", w.wouldPay(1, 1), 31);
        CHECK.same("the first by the core", w.wouldPay(0, 2), 86);
        CHECK.same("the second by the core", w.wouldPay(1, 2), 45);
        CHECK.same("nobody objects", w.objects(4, 2), 0);
        w.settle(2);
        CHECK.same("settled by the core", w.pays(0, false), 86);
        CHECK.same("due by the core", w.pays(1, true), 42);
    }

    private static void promise31CoreWithOneWhoPaysAll() {
        Wavesale w = told(3, 5);
        w.offer(0, A, 100);
        w.offer(1, B, 100);
        w.offer(2, C, 100);
        w.offer(3, A + B + C, 270);
        w.offer(4, C, 96);
        CHECK.same("harm of the first", w.wouldPay(0, 1), 70);
        CHECK.same("harm of the third", w.wouldPay(2, 1), 96);
        CHECK.same("34 are missing", w.objects(8, 1), 34);
        CHECK.same("the third pays all", w.wouldPay(2, 2), 100);
        CHECK.same("the others go on", w.wouldPay(0, 2), 85);
        CHECK.same("so does the second", w.wouldPay(1, 2), 85);
    }

    /** Rooms of 30, 30 and 4, and 20 are missing: 4 turns of all, then 4 of two. */
    private static void promise31CoreTurnByTurn() {
        Wavesale w = told(3, 5);
        w.offer(0, A, 100);
        w.offer(1, B, 100);
        w.offer(2, C, 100);
        w.offer(3, A + B + C, 256);
        w.offer(4, A, 70);
        w.offer(4, B, 70);
        w.offer(4, C, 96);
        CHECK.same("20 are missing", w.objects(8, 1), 20);
        CHECK.same("the first", w.wouldPay(0, 2), 78);
        CHECK.same("the second", w.wouldPay(1, 2), 78);
        CHECK.same("the third pays all", w.wouldPay(2, 2), 100);
    }

    /** Rooms of 13, 13, 1, 3 and 6, and 23 are missing: 6 turns fill the last three, 1 is left for the first. */
    private static void promise31CoreWithManyWhoPayAll() {
        Wavesale w = told(5, 6);
        int[] codes = {A, B, C, 216, 1296};
        int[] rooms = {13, 13, 1, 3, 6};
        int[] due = {94, 93, 100, 100, 100};
        w.offer(0, A + B + C + 216 + 1296, 487);
        for (int k = 0; k < 5; k++) {
            w.offer(1 + k, codes[k], 100);
            w.offer(0, codes[k], 100 - rooms[k]);
        }
        CHECK.same("23 are missing", w.objects(1, 1), 23);
        for (int k = 0; k < 5; k++) {
            CHECK.same("harm of " + (1 + k), w.wouldPay(1 + k, 1), 100 - rooms[k]);
            CHECK.same("core of " + (1 + k), w.wouldPay(1 + k, 2), due[k]);
        }
        w.settle(2);
        CHECK.same("all pay together what the first would", w.pays(1, false) + 93 + 300, 487);
    }

    /** The set that objects most is answered first, and of two with the same the smaller one. */
    private static void promise31CoreOfSeveralSets() {
        Wavesale w = told(3, 5);
        w.offer(0, A, 100);
        w.offer(1, B, 100);
        w.offer(2, C, 100);
        w.offer(3, A + B, 180);
        w.offer(4, B + C, 171);
        CHECK.same("harm of the first", w.wouldPay(0, 1), 80);
        CHECK.same("harm of the second", w.wouldPay(1, 1), 80);
        CHECK.same("harm of the third", w.wouldPay(2, 1), 71);
        CHECK.same("the fourth does not object alone", w.objects(8, 1), 0);
        CHECK.same("with the third it does", w.objects(12, 1), 20);
        CHECK.same("the fifth does with the first", w.objects(17, 1), 20);
        CHECK.same("the first by the core", w.wouldPay(0, 2), 90);
        CHECK.same("the second by the core", w.wouldPay(1, 2), 95);
        CHECK.same("the third by the core", w.wouldPay(2, 2), 76);
        for (int set = 0; set < 32; set++) {
            CHECK.same("nobody objects, " + set, w.objects(set, 2), 0);
        }
    }

    private static void promise32Objects() {
        Wavesale w = told(2, 3);
        w.offer(0, A, 100);
        w.offer(1, B, 60);
        w.offer(2, A + B, 131);
        CHECK.same("nobody objects to amounts", w.objects(4, 0), 0);
        CHECK.same("the third objects to harm", w.objects(4, 1), 29);
        CHECK.same("with the first it objects by what the second pays", w.objects(5, 1), 131 - 100 - 31);
        CHECK.same("winners do not object", w.objects(3, 1), 0);
        CHECK.same("no set objects", w.objects(0, 1), 0);
        CHECK.noArgument("set below 0", () -> w.objects(-1, 0));
        CHECK.noArgument("one who is not there", () -> w.objects(8, 0));
        CHECK.noArgument("way 3", () -> w.objects(1, 3));
        CHECK.noArgument("way -1", () -> w.objects(1, -1));
        w.settle(2);
        CHECK.same("as if it was settled by harm", w.objects(4, 1), 29);
        CHECK.same("by the core", w.objects(4, 2), 0);
        Wavesale early = new Wavesale();
        early.region(1, 1, 1);
        early.bidder(1, 1, 0, 0);
        CHECK.same("at first", early.objects(1, 1), 0);
        early.open();
        CHECK.same("while the clock runs", early.objects(1, 1), 0);
        CHECK.noArgument("while the clock runs, one who is not there", () -> early.objects(2, 1));
    }
}
