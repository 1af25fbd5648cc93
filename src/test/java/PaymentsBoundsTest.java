/** Promises 26 and 30 to 32, and what part 3 says of payments, sentence by sentence. */
public final class PaymentsBoundsTest {
    private static final Check CHECK = new Check("PaymentsBoundsTest");
    private static final int A = 1;
    private static final int B = 6;
    private static final int C = 36;
    private static final int[] NOBODY = {2, -1, Integer.MIN_VALUE, Integer.MAX_VALUE};

    public static void main(String[] args) {
        paysPlaces();
        paysStages();
        paysNoWinner();
        dueTowardsNothing();
        dueOfAll();
        worthSets();
        worthStages();
        worthOfNobody();
        wouldPayPlaces();
        wouldPayWays();
        wouldPayStages();
        wouldPayNoWinner();
        wouldPayAsIfSettledNow();
        harmOfNothing();
        harmOfAll();
        coreWithoutObjection();
        coreJustMissing();
        coreOfHalves();
        corePaysNoMoreThanAmount();
        coreGoesOnWithTheOthers();
        coreOfFiveWinners();
        coreGreatestFirst();
        coreOfSmallestSet();
        objectsSets();
        objectsWays();
        objectsStages();
        objectsAboveNothing();
        objectsOfWinners();
        CHECK.end();
    }

    /** Two win with 100 and 60; a third wants both of their blocks, for so much. */
    private static Wavesale threatened(int amount) {
        Wavesale w = Sales.told(2, 1, 3);
        w.offer(0, A, 100);
        w.offer(1, B, 60);
        w.offer(2, A + B, amount);
        return w;
    }

    private static void paysPlaces() {
        CHECK.promise(26, "Throws `IndexOutOfBoundsException` if there is no such BIDDER");
        Wavesale none = new Wavesale();
        CHECK.noPlace("nobody", none, () -> none.pays(0, true));
        for (int stage = 0; stage <= 3; stage++) {
            Wavesale w = Sales.inStage(stage);
            for (int far : NOBODY) {
                CHECK.noPlace("bidder " + far + " in stage " + stage, w, () -> w.pays(far, false));
                CHECK.noPlace("due of " + far + " in stage " + stage, w, () -> w.pays(far, true));
            }
        }
        Wavesale full = Sales.told(1, 1, 6);
        CHECK.same("the sixth", full.pays(5, true), 0);
        CHECK.noPlace("the seventh", full, () -> full.pays(6, true));
    }

    private static void paysStages() {
        CHECK.promise(26, "Returns that, as it is kept in STAGE 3 (0, if it is no WINNER, and in other STAGES).");
        int[] due = {0, 0, 0, 10};
        for (int stage = 0; stage <= 3; stage++) {
            Wavesale w = Sales.inStage(stage);
            CHECK.same("payment in stage " + stage, w.pays(0, false), due[stage]);
            CHECK.same("due in stage " + stage, w.pays(0, true), due[stage]);
        }
    }

    private static void paysNoWinner() {
        CHECK.promise(26, "0, if it is no WINNER");
        for (int way = 0; way <= 2; way++) {
            Wavesale w = threatened(150);
            w.settle(way);
            CHECK.same("who has lost, by way " + way, w.pays(2, false), 0);
            CHECK.same("due of who has lost", w.pays(2, true), 0);
            w.fail(0);
            CHECK.same("who is out, by way " + way, w.pays(0, false), 0);
            CHECK.isTrue("who wins then", w.pays(2, false) > 0);
        }
    }

    private static void dueTowardsNothing() {
        CHECK.part(3, "DUE is PAYMENT * (100 - CREDIT) / 100.");
        int[][] rows = {{1, 0, 1}, {1, 1, 0}, {1, 30, 0}, {2, 30, 1}, {10, 30, 7}, {99, 1, 98}, {100, 1, 99},
            {101, 1, 99}, {99999, 0, 99999}, {99999, 1, 98999}, {99999, 30, 69999}};
        for (int[] row : rows) {
            Wavesale w = new Wavesale();
            w.region(1, 1, 1);
            w.bidder(99999, 9, row[1], 0);
            w.open();
            w.close(1);
            w.offer(0, A, row[0]);
            w.settle(0);
            CHECK.same("payment", w.pays(0, false), row[0]);
            CHECK.same("due of " + row[0] + " with credit " + row[1], w.pays(0, true), row[2]);
        }
        Wavesale free = new Wavesale();
        free.region(1, 1, 1);
        free.bidder(99999, 9, 30, 0);
        free.open();
        free.close(1);
        free.offer(0, A, 99999);
        free.settle(1);
        CHECK.same("due of nothing", free.pays(0, true), 0);
    }

    private static void dueOfAll() {
        CHECK.promise(29, "11 what is DUE of all together (in STAGE 3, otherwise 0)");
        Wavesale w = Sales.prepared(1, 5, 0);
        for (int k = 0; k < 3; k++) {
            w.bidder(999, 9, 1, 0);
        }
        w.open();
        w.close(1);
        for (int k = 0; k < 3; k++) {
            w.offer(k, A, 50);
        }
        CHECK.same("ahead of the settling", w.sale(11), 0);
        w.settle(0);
        CHECK.same("49.5 each is 49 each", w.sale(11), 147);
    }

    private static void worthSets() {
        CHECK.promise(30, "Throws `IllegalArgumentException` if set is below 0, or has one that is not there");
        for (int bidders = 0; bidders <= 6; bidders++) {
            Wavesale w = Sales.prepared(1, 1, bidders);
            int all = (1 << bidders) - 1;
            CHECK.same("all " + bidders, w.worth(all), 0);
            CHECK.noArgument("one more than " + bidders, w, () -> w.worth(all + 1));
            CHECK.noArgument("all and one more", w, () -> w.worth(2 * all + 1 + (all == 0 ? 1 : 0)));
        }
        for (int stage = 0; stage <= 3; stage++) {
            Wavesale w = Sales.inStage(stage);
            CHECK.noArgument("4 in stage " + stage, w, () -> w.worth(4));
            for (int far : Sales.FAR_OFF) {
                CHECK.noArgument(far + " in stage " + stage, w, () -> w.worth(far));
            }
        }
    }

    private static void worthStages() {
        CHECK.promise(30, "Returns its WORTH (0 in STAGES 0 and 1).");
        int[] due = {0, 0, 10, 10};
        for (int stage = 0; stage <= 3; stage++) {
            Wavesale w = Sales.inStage(stage);
            CHECK.same("the first, in stage " + stage, w.worth(1), due[stage]);
            CHECK.same("both, in stage " + stage, w.worth(3), due[stage]);
            CHECK.same("of all, in stage " + stage, w.sale(10), due[stage]);
            CHECK.same("the second, in stage " + stage, w.worth(2), 0);
        }
    }

    private static void worthOfNobody() {
        CHECK.part(3, "WINNERS among a set of BIDDERS");
        Wavesale w = threatened(150);
        int[] due = {0, 100, 60, 160, 150, 150, 150, 160};
        for (int set = 0; set < 8; set++) {
            CHECK.same("worth of " + set, w.worth(set), due[set]);
        }
    }

    private static void wouldPayPlaces() {
        CHECK.promise(31, "Throws `IndexOutOfBoundsException` if there is no such BIDDER");
        Wavesale none = new Wavesale();
        CHECK.noPlace("nobody", none, () -> none.wouldPay(0, 0));
        for (int stage = 0; stage <= 3; stage++) {
            Wavesale w = Sales.inStage(stage);
            for (int far : NOBODY) {
                CHECK.noPlace("bidder " + far + " in stage " + stage, w, () -> w.wouldPay(far, 0));
                CHECK.noPlace("bidder " + far + ", way 3", w, () -> w.wouldPay(far, 3));
                CHECK.noPlace("bidder " + far + ", way -1", w, () -> w.wouldPay(far, -1));
            }
        }
        Wavesale full = Sales.told(1, 1, 6);
        CHECK.same("the sixth", full.wouldPay(5, 2), 0);
        CHECK.noPlace("the seventh", full, () -> full.wouldPay(6, 2));
    }

    private static void wouldPayWays() {
        CHECK.promise(31, "Throws `IllegalArgumentException` if way is not 0 to 2");
        int[] due = {10, 0, 0};
        for (int stage = 0; stage <= 3; stage++) {
            Wavesale w = Sales.inStage(stage);
            CHECK.noArgument("way 3 in stage " + stage, w, () -> w.wouldPay(0, 3));
            for (int far : Sales.FAR_OFF) {
                CHECK.noArgument("way " + far + " in stage " + stage, w, () -> w.wouldPay(0, far));
            }
            for (int way = 0; way <= 2; way++) {
                CHECK.same("way " + way + " in stage " + stage, w.wouldPay(0, way), stage < 2 ? 0 : due[way]);
            }
        }
    }

    private static void wouldPayStages() {
        CHECK.promise(31, "Returns its PAYMENT by WINNERS as they are (0, if it is none of these, and in STAGES 0 and 1; in STAGE 3 as if it was SETTLED now).");
        int[] due = {0, 0, 10, 10};
        for (int stage = 0; stage <= 3; stage++) {
            CHECK.same("stage " + stage, Sales.inStage(stage).wouldPay(0, 0), due[stage]);
        }
    }

    private static void wouldPayNoWinner() {
        CHECK.promise(31, "0, if it is none of these");
        Wavesale w = threatened(159);
        for (int way = 0; way <= 2; way++) {
            CHECK.same("by way " + way, w.wouldPay(2, way), 0);
        }
        w.offer(2, A + B, 161);
        for (int way = 0; way <= 2; way++) {
            CHECK.same("the first then, by way " + way, w.wouldPay(0, way), 0);
            CHECK.same("the third then, by way " + way, w.wouldPay(2, way), way == 0 ? 161 : 160);
        }
    }

    private static void wouldPayAsIfSettledNow() {
        CHECK.promise(31, "in STAGE 3 as if it was SETTLED now");
        Wavesale w = threatened(131);
        w.settle(0);
        CHECK.same("settled by amounts", w.pays(0, false), 100);
        CHECK.same("by harm", w.wouldPay(0, 1), 71);
        CHECK.same("by the core", w.wouldPay(0, 2), 86);
        w.fail(0);
        CHECK.same("who is out", w.wouldPay(0, 0), 0);
        CHECK.same("who wins now, by harm", w.wouldPay(2, 1), 60);
        CHECK.same("by amounts", w.wouldPay(2, 0), 131);
    }

    private static void harmOfNothing() {
        CHECK.part(3, "1 HARM: WORTH of all without that one, less AMOUNTS of the other WINNERS");
        Wavesale w = Sales.told(2, 1, 3);
        w.offer(0, A, 50);
        CHECK.same("alone", w.wouldPay(0, 1), 0);
        w.offer(1, B, 70);
        CHECK.same("with another, who is not in its way", w.wouldPay(0, 1), 0);
        w.offer(2, A, 10);
        CHECK.same("with one who is", w.wouldPay(0, 1), 10);
    }

    private static void harmOfAll() {
        CHECK.part(3, "1 HARM: WORTH of all without that one, less AMOUNTS of the other WINNERS");
        Wavesale w = Sales.told(1, 1, 2);
        w.offer(0, A, 50);
        w.offer(1, A, 49);
        CHECK.same("1 less than its amount", w.wouldPay(0, 1), 49);
        w.offer(1, A, 50);
        CHECK.same("just its amount", w.wouldPay(1, 1), 50);
        CHECK.same("no more by the core", w.wouldPay(1, 2), 50);
        CHECK.same("the other one wins no longer", w.wouldPay(0, 1), 0);
    }

    private static void coreWithoutObjection() {
        CHECK.part(3, "2 CORE: as with 1 at first");
        Wavesale w = Sales.told(2, 1, 3);
        w.offer(0, A, 100);
        w.offer(1, A, 70);
        w.offer(2, B, 60);
        CHECK.same("as by harm", w.wouldPay(0, 2), 70);
        CHECK.same("nothing", w.wouldPay(2, 2), 0);
        for (int set = 0; set < 8; set++) {
            CHECK.same("objection of " + set, w.objects(set, 1), 0);
        }
    }

    /** By harm they pay 60 and 100 less than the third would, so 160 less that is missing. */
    private static void coreJustMissing() {
        CHECK.part(3, "WINNERS outside of it, from the smallest number on, again and again, each 1 more");
        int[][] rows = {{159, 99, 59, 1, 100, 59}, {158, 98, 58, 2, 99, 59}, {157, 97, 57, 3, 99, 58},
            {156, 96, 56, 4, 98, 58}, {101, 41, 1, 59, 71, 30}, {100, 40, 0, 60, 70, 30}, {99, 39, 0, 60, 69, 30}};
        for (int[] row : rows) {
            Wavesale w = threatened(row[0]);
            CHECK.same("harm of the first with " + row[0], w.wouldPay(0, 1), row[1]);
            CHECK.same("harm of the second with " + row[0], w.wouldPay(1, 1), row[2]);
            CHECK.same("missing", w.objects(4, 1), row[3]);
            CHECK.same("core of the first with " + row[0], w.wouldPay(0, 2), row[4]);
            CHECK.same("core of the second with " + row[0], w.wouldPay(1, 2), row[5]);
            CHECK.same("nobody objects", w.objects(4, 2), 0);
        }
    }

    private static void coreOfHalves() {
        CHECK.part(3, "until so much more is paid, or none can");
        int[][] rows = {{60, 30, 30}, {59, 30, 29}, {21, 11, 10}, {20, 10, 10}};
        for (int[] row : rows) {
            Wavesale w = threatened(row[0]);
            CHECK.same("no harm by the first", w.wouldPay(0, 1), 0);
            CHECK.same("core of the first with " + row[0], w.wouldPay(0, 2), row[1]);
            CHECK.same("core of the second with " + row[0], w.wouldPay(1, 2), row[2]);
        }
    }

    /** Each time one of the two can pay a little more only. */
    private static void corePaysNoMoreThanAmount() {
        CHECK.part(3, "as long as it pays less than its AMOUNT");
        Wavesale w = Sales.told(2, 1, 4);
        w.offer(0, A, 100);
        w.offer(1, B, 30);
        w.offer(2, A + B, 120);
        w.offer(3, B, 29);
        CHECK.same("harm of the first", w.wouldPay(0, 1), 90);
        CHECK.same("harm of the second", w.wouldPay(1, 1), 29);
        CHECK.same("missing", w.objects(4, 1), 1);
        CHECK.same("the first pays it", w.wouldPay(0, 2), 91);
        CHECK.same("the second pays no more", w.wouldPay(1, 2), 29);
        Wavesale v = Sales.told(2, 1, 4);
        v.offer(0, A, 30);
        v.offer(1, B, 100);
        v.offer(2, A + B, 110);
        v.offer(3, A, 28);
        CHECK.same("harm of the first", v.wouldPay(0, 1), 28);
        CHECK.same("harm of the second", v.wouldPay(1, 1), 80);
        CHECK.same("missing", v.objects(4, 1), 2);
        CHECK.same("1 of the first", v.wouldPay(0, 2), 29);
        CHECK.same("1 of the second", v.wouldPay(1, 2), 81);
        Wavesale u = Sales.told(2, 1, 4);
        u.offer(0, A, 30);
        u.offer(1, B, 100);
        u.offer(2, A + B, 105);
        u.offer(3, A, 29);
        CHECK.same("missing", u.objects(4, 1), 105 - 29 - 75);
        CHECK.same("all of the first", u.wouldPay(0, 2), 30);
        CHECK.same("none of the second", u.wouldPay(1, 2), 75);
        Wavesale t = Sales.told(2, 1, 4);
        t.offer(0, A, 30);
        t.offer(1, B, 100);
        t.offer(2, A + B, 100);
        t.offer(3, A, 25);
        CHECK.same("missing", t.objects(4, 1), 100 - 25 - 70);
        CHECK.same("3 of the first", t.wouldPay(0, 2), 28);
        CHECK.same("2 of the second", t.wouldPay(1, 2), 72);
    }

    /** Three win with 100 each; a fourth wants all, a fifth one of each: how much each can pay more is told by that. */
    private static Wavesale rooms(int missing, int... rooms) {
        Wavesale w = Sales.told(3, 1, 5);
        int[] codes = {A, B, C};
        int all = missing;
        for (int k = 0; k < 3; k++) {
            w.offer(k, codes[k], 100);
            w.offer(4, codes[k], 100 - rooms[k]);
            all += 100 - rooms[k];
        }
        w.offer(3, A + B + C, all);
        return w;
    }

    private static void coreGoesOnWithTheOthers() {
        CHECK.part(3, "again and again, each 1 more, as long as it pays less than its AMOUNT, until so much more is paid, or none can");
        int[][] rows = {{31, 2, 40, 40, 100, 75, 74}, {31, 1, 40, 40, 100, 75, 75}, {30, 40, 1, 40, 75, 100, 74},
            {31, 40, 40, 1, 75, 75, 100}, {2, 1, 1, 40, 100, 100, 60}, {3, 1, 2, 40, 100, 99, 61},
            {2, 1, 40, 40, 100, 61, 60}, {1, 1, 40, 40, 100, 60, 60}, {36, 12, 40, 40, 100, 72, 72},
            {38, 12, 40, 40, 100, 73, 73}};
        for (int[] row : rows) {
            Wavesale w = rooms(row[0], row[1], row[2], row[3]);
            CHECK.same("missing", w.objects(8, 1), row[0]);
            for (int k = 0; k < 3; k++) {
                CHECK.same("harm of " + k, w.wouldPay(k, 1), 100 - row[1 + k]);
                CHECK.same("core of " + k + " with rooms of " + row[1] + ", " + row[2] + ", " + row[3] + " and "
                        + row[0] + " missing", w.wouldPay(k, 2), row[4 + k]);
            }
            CHECK.same("nobody objects", w.objects(8, 2), 0);
        }
    }

    /** The first wants all of five regions, and one of each: 4 turns of all, 3 of three, 2 of two; 1 is left. */
    private static void coreOfFiveWinners() {
        CHECK.part(3, "again and again, each 1 more");
        Wavesale w = Sales.told(5, 1, 6);
        int[] codes = {A, B, C, 216, 1296};
        int[] rooms = {20, 4, 21, 4, 7};
        int[] due = {90, 100, 88, 100, 100};
        int all = 34;
        for (int k = 0; k < 5; k++) {
            w.offer(1 + k, codes[k], 100);
            w.offer(0, codes[k], 100 - rooms[k]);
            all += 100 - rooms[k];
        }
        w.offer(0, 7775 / 5, all);
        CHECK.same("missing", w.objects(1, 1), 34);
        for (int k = 0; k < 5; k++) {
            CHECK.same("amount of " + (1 + k), w.wouldPay(1 + k, 0), 100);
            CHECK.same("harm of " + (1 + k), w.wouldPay(1 + k, 1), 100 - rooms[k]);
            CHECK.same("core of " + (1 + k), w.wouldPay(1 + k, 2), due[k]);
        }
        CHECK.same("the first does not object any more", w.objects(1, 2), 0);
        w.settle(2);
        CHECK.same("due of all", w.sale(11), all);
        CHECK.same("payment of the sixth", w.pays(5, false), 100);
    }

    /** The fifth alone is answered by all three; with the first it misses 27 still, which the others pay. */
    private static void coreGreatestFirst() {
        CHECK.part(3, "then, as long as there is a set of BIDDERS that OBJECTS, by how much is greatest, that one");
        Wavesale w = Sales.told(3, 1, 5);
        w.offer(0, A, 100);
        w.offer(1, B, 100);
        w.offer(2, C, 100);
        w.offer(3, A + B, 60);
        w.offer(4, B + C, 80);
        CHECK.same("no harm by any", w.wouldPay(0, 1) + w.wouldPay(1, 1) + w.wouldPay(2, 1), 0);
        CHECK.same("the fourth objects", w.objects(8, 1), 60);
        CHECK.same("the fifth more", w.objects(16, 1), 80);
        CHECK.same("27 of 80", w.wouldPay(0, 2), 27);
        CHECK.same("27 of 80 and 14 of 27", w.wouldPay(1, 2), 41);
        CHECK.same("26 of 80 and 13 of 27", w.wouldPay(2, 2), 39);
        for (int set = 0; set < 32; set++) {
            CHECK.same("objection of " + set, w.objects(set, 2), 0);
        }
    }

    /** By 60 the fourth and the fifth object, each also with the winner that is not in its way: 8 is the smallest. */
    private static void coreOfSmallestSet() {
        CHECK.part(3, "by how much is greatest, that one");
        Wavesale w = Sales.told(3, 1, 5);
        w.offer(0, A, 100);
        w.offer(1, B, 100);
        w.offer(2, C, 100);
        w.offer(3, A + B, 60);
        w.offer(4, B + C, 60);
        for (int set : new int[] {8, 12, 16, 17, 24}) {
            CHECK.same("objection of " + set, w.objects(set, 1), 60);
        }
        CHECK.same("20 of 8, 10 of 12", w.wouldPay(0, 2), 30);
        CHECK.same("20 of 8, 10 of 12, and 5 of 17", w.wouldPay(1, 2), 35);
        CHECK.same("20 of 8, and 5 of 17", w.wouldPay(2, 2), 25);
        Wavesale v = Sales.told(2, 1, 4);
        v.offer(0, A, 50);
        v.offer(1, B, 50);
        v.offer(2, A, 20);
        v.offer(3, B, 20);
        CHECK.same("nobody objects", v.objects(15, 1), 0);
        CHECK.same("so it is as by harm", v.wouldPay(0, 2), 20);
    }

    private static void objectsSets() {
        CHECK.promise(32, "Throws `IllegalArgumentException` if set is below 0, or has one that is not there, or way is not 0 to 2");
        for (int bidders = 0; bidders <= 6; bidders++) {
            Wavesale w = Sales.prepared(1, 1, bidders);
            int all = (1 << bidders) - 1;
            for (int k = 0; k <= 2; k++) {
                int way = k;
                CHECK.same("all " + bidders, w.objects(all, way), 0);
                CHECK.noArgument("one more than " + bidders, w, () -> w.objects(all + 1, way));
            }
        }
        for (int stage = 0; stage <= 3; stage++) {
            Wavesale w = Sales.inStage(stage);
            for (int far : Sales.FAR_OFF) {
                CHECK.noArgument(far + " in stage " + stage, w, () -> w.objects(far, 0));
            }
        }
    }

    private static void objectsWays() {
        CHECK.promise(32, "or way is not 0 to 2");
        for (int stage = 0; stage <= 3; stage++) {
            Wavesale w = Sales.inStage(stage);
            CHECK.noArgument("way 3 in stage " + stage, w, () -> w.objects(0, 3));
            for (int far : Sales.FAR_OFF) {
                CHECK.noArgument("way " + far + " in stage " + stage, w, () -> w.objects(3, far));
            }
            for (int way = 0; way <= 2; way++) {
                CHECK.same("way " + way + " in stage " + stage, w.objects(3, way), 0);
            }
        }
    }

    private static void objectsStages() {
        CHECK.promise(32, "Returns by how much it OBJECTS to PAYMENTS by that WAY; 0, if it does not (and in STAGES 0 and 1).");
        Wavesale w = Sales.opened(1, 1, 2);
        w.wish(0, 0, 1);
        w.wish(1, 0, 1);
        w.close(1);
        CHECK.same("while the clock runs", w.objects(1, 1) + w.objects(2, 1) + w.objects(3, 1), 0);
        Wavesale v = threatened(131);
        CHECK.same("in stage 2", v.objects(4, 1), 29);
        v.settle(0);
        CHECK.same("in stage 3, by that way", v.objects(4, 1), 29);
        CHECK.same("and by another", v.objects(4, 0), 0);
    }

    private static void objectsAboveNothing() {
        CHECK.part(3, "A set OBJECTS by its WORTH, less AMOUNTS of WINNERS in it, less PAYMENTS of WINNERS outside of it, if that is above 0.");
        CHECK.same("by 1", threatened(159).objects(4, 1), 1);
        Wavesale w = Sales.told(1, 1, 2);
        w.offer(0, A, 50);
        w.offer(1, A, 49);
        CHECK.same("by 0", w.objects(2, 1), 0);
        CHECK.same("by -1", w.objects(2, 0), 0);
        CHECK.same("nobody, by -49", w.objects(0, 1), 0);
        CHECK.same("nobody, of nothing", Sales.told(1, 1, 2).objects(0, 0), 0);
    }

    private static void objectsOfWinners() {
        CHECK.promise(32, "Returns by how much it OBJECTS to PAYMENTS by that WAY");
        Wavesale w = threatened(131);
        int[] due = {0, 0, 0, 0, 29, 0, 0, 0};
        for (int set = 0; set < 8; set++) {
            CHECK.same("by harm, " + set, w.objects(set, 1), due[set]);
            CHECK.same("by amounts, " + set, w.objects(set, 0), 0);
            CHECK.same("by the core, " + set, w.objects(set, 2), 0);
        }
        Wavesale v = Sales.told(3, 1, 4);
        v.offer(0, A, 100);
        v.offer(1, B, 100);
        v.offer(2, C, 100);
        v.offer(3, A + B, 170);
        CHECK.same("the fourth alone", v.objects(8, 1), 170 - 70 - 70);
        CHECK.same("with the third, who wins", v.objects(12, 1), 270 - 100 - 140);
        CHECK.same("with the first", v.objects(9, 1), 0);
    }
}
