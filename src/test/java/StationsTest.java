/** Promises 14 to 18: old stations, their channels, and which of them are bought. */
public final class StationsTest {
    private static final Check CHECK = new Check("StationsTest");

    public static void main(String[] args) {
        promise14Station();
        promise14InAnyStage();
        promise15Ask();
        promise16Packs();
        promise17Channel();
        promise18Clear();
        promise18ManyStations();
        CHECK.end();
    }

    private static Wavesale sale(int regions, int... borders) {
        Wavesale w = new Wavesale();
        for (int k = 0; k < regions; k++) {
            w.region(1, 1, 1);
        }
        for (int k = 0; k < borders.length; k += 2) {
            w.border(borders[k], borders[k + 1]);
        }
        return w;
    }

    private static void promise14Station() {
        Wavesale w = sale(2);
        CHECK.same("first station", w.station(1, 1), 0);
        CHECK.same("second station", w.station(0, 9999), 1);
        CHECK.same("stations", w.sale(4), 2);
        CHECK.same("stations in region 1", w.ofRegion(1, 8), 1);
        CHECK.noPlace("no region", () -> w.station(2, 1));
        CHECK.noPlace("region -1", () -> w.station(-1, 1));
        CHECK.noPlace("no region, and no ask", () -> w.station(2, 0));
        CHECK.noArgument("ask 0", () -> w.station(0, 0));
        CHECK.noArgument("ask 10000", () -> w.station(0, 10000));
        CHECK.same("stations behind wrong ones", w.sale(4), 2);
        for (int k = 2; k < 10; k++) {
            CHECK.same("station " + k, w.station(1, 5), k);
        }
        CHECK.noState("eleventh station", () -> w.station(0, 5));
        CHECK.noArgument("eleventh station without an ask", () -> w.station(0, 0));
        CHECK.noPlace("eleventh station without a region", () -> w.station(2, 5));
        CHECK.same("stations in region 1 at last", w.ofRegion(1, 8), 9);
    }

    private static void promise14InAnyStage() {
        Wavesale w = sale(1);
        w.bidder(1, 1, 0, 0);
        for (int stage = 0; stage < 4; stage++) {
            CHECK.same("stage", w.sale(0), stage);
            CHECK.same("station in stage " + stage, w.station(0, 5), stage);
            CHECK.same("ask in stage " + stage, w.ask(stage, 6), 5);
            if (stage == 0) {
                w.open();
            } else if (stage == 1) {
                w.close(1);
            } else if (stage == 2) {
                w.settle(0);
            }
        }
    }

    private static void promise15Ask() {
        Wavesale w = sale(1);
        CHECK.noPlace("no station", () -> w.ask(0, 5));
        w.station(0, 40);
        w.station(0, 50);
        CHECK.same("ask before", w.ask(0, 60), 40);
        CHECK.same("ask then", w.ask(0, 9999), 60);
        CHECK.same("ask of another", w.ask(1, 1), 50);
        CHECK.noPlace("station 2", () -> w.ask(2, 5));
        CHECK.noPlace("station -1", () -> w.ask(-1, 5));
        CHECK.noPlace("station 2, and no ask", () -> w.ask(2, 0));
        CHECK.noArgument("ask 0", () -> w.ask(0, 0));
        CHECK.noArgument("ask 10000", () -> w.ask(0, 10000));
        CHECK.same("ask behind wrong ones", w.ask(0, 1), 9999);
    }

    private static void promise16Packs() {
        Wavesale w = sale(4, 0, 1, 1, 2);
        CHECK.isTrue("nothing", w.packs(0, 1));
        CHECK.noArgument("none that is there", () -> w.packs(1, 1));
        w.station(0, 1);
        w.station(1, 1);
        w.station(2, 1);
        w.station(3, 1);
        CHECK.isTrue("one", w.packs(1, 1));
        CHECK.isTrue("no neighbours", w.packs(1 + 4 + 8, 1));
        CHECK.isTrue("neighbours disturb each other", !w.packs(1 + 2, 1));
        CHECK.isTrue("the other way round too", !w.packs(2 + 4, 1));
        CHECK.isTrue("all in two", w.packs(15, 2));
        w.station(0, 1);
        CHECK.isTrue("two of a region", !w.packs(1 + 16, 1));
        CHECK.isTrue("three in two", !w.packs(1 + 2 + 16, 2));
        CHECK.isTrue("three in three", w.packs(1 + 2 + 16, 3));
        CHECK.isTrue("all in three", w.packs(31, 3));
        CHECK.noArgument("set below 0", () -> w.packs(-1, 1));
        CHECK.noArgument("one that is not there", () -> w.packs(32, 1));
        CHECK.noArgument("no channel", () -> w.packs(1, 0));
        CHECK.noArgument("7 channels", () -> w.packs(1, 7));
        CHECK.isTrue("6 channels", w.packs(1, 6));
        Wavesale full = sale(1);
        for (int k = 0; k < 7; k++) {
            full.station(0, 1);
        }
        CHECK.isTrue("six of a region in six", full.packs(63, 6));
        CHECK.isTrue("not in five", !full.packs(63, 5));
        CHECK.isTrue("seven not in six", !full.packs(127, 6));
        ringOfFive();
        bordersOfLater();
    }

    private static void ringOfFive() {
        Wavesale ring = sale(5, 0, 1, 1, 2, 2, 3, 3, 4, 4, 0);
        for (int k = 0; k < 10; k++) {
            ring.station(k % 5, 1 + k);
        }
        CHECK.isTrue("a ring of five not in two", !ring.packs(31, 2));
        CHECK.isTrue("in three", ring.packs(31, 3));
        CHECK.isTrue("two of each not in four", !ring.packs(1023, 4));
        CHECK.isTrue("two of each in five", ring.packs(1023, 5));
        CHECK.same("for four the cheapest one goes", ring.clear(4), 3);
        CHECK.same("for five nothing", ring.clear(5), 0);
    }

    private static void bordersOfLater() {
        Wavesale w = sale(2);
        w.station(0, 1);
        w.station(1, 1);
        CHECK.isTrue("no border yet", w.packs(3, 1));
        w.border(1, 0);
        CHECK.isTrue("a border of later", !w.packs(3, 1));
    }

    private static void promise17Channel() {
        Wavesale w = sale(3, 0, 1, 1, 2);
        CHECK.noPlace("no station", () -> w.channel(0, 1, 0));
        w.station(0, 1);
        w.station(1, 1);
        w.station(2, 1);
        w.station(1, 1);
        int[] due = {0, 1, 0, 2};
        for (int station = 0; station < 4; station++) {
            CHECK.same("channel of " + station, w.channel(15, 3, station), due[station]);
            CHECK.same("with more channels, of " + station, w.channel(15, 6, station), due[station]);
            CHECK.same("that can not be packed, of " + station, w.channel(15, 2, station), -1);
        }
        CHECK.same("not in the set", w.channel(13, 3, 1), -1);
        CHECK.same("without it", w.channel(13, 3, 3), 1);
        CHECK.same("without its neighbours", w.channel(10, 3, 1), 0);
        CHECK.same("alone in one", w.channel(8, 1, 3), 0);
        CHECK.noPlace("station 4", () -> w.channel(15, 3, 4));
        CHECK.noPlace("station -1", () -> w.channel(15, 3, -1));
        CHECK.noPlace("station 4, and no set", () -> w.channel(-1, 3, 4));
        CHECK.noArgument("set below 0", () -> w.channel(-1, 3, 0));
        CHECK.noArgument("one that is not there", () -> w.channel(16, 3, 0));
        CHECK.noArgument("no channel", () -> w.channel(15, 0, 0));
        CHECK.noArgument("7 channels", () -> w.channel(15, 7, 0));
        channelThatLeavesRoom();
        Wavesale full = sale(1);
        for (int k = 0; k < 6; k++) {
            full.station(0, 1);
        }
        CHECK.same("the last channel", full.channel(63, 6, 5), 5);
    }

    /** Regions in a line, 0 to 3: both ends could have channel 0, but the middle ones want two of their own. */
    private static void channelThatLeavesRoom() {
        Wavesale line = sale(4, 0, 1, 1, 2, 2, 3);
        line.station(0, 1);
        line.station(3, 1);
        line.station(1, 1);
        line.station(2, 1);
        int[] inTwo = {0, 1, 1, 0};
        int[] inThree = {0, 0, 1, 2};
        for (int station = 0; station < 4; station++) {
            CHECK.same("in two, of " + station, line.channel(15, 2, station), inTwo[station]);
            CHECK.same("in three, of " + station, line.channel(15, 3, station), inThree[station]);
        }
    }

    private static void promise18Clear() {
        Wavesale w = sale(2, 0, 1);
        CHECK.same("without stations", w.clear(1), 0);
        CHECK.noArgument("no channel", () -> w.clear(0));
        CHECK.noArgument("7 channels", () -> w.clear(7));
        w.station(0, 40);
        w.station(0, 25);
        w.station(1, 66);
        CHECK.same("the least sum", w.clear(1), 3);
        w.ask(1, 27);
        CHECK.same("for another ask", w.clear(1), 3);
        w.ask(2, 68);
        CHECK.same("one that is kept is the dearest", w.clear(1), 3);
        w.ask(0, 69);
        CHECK.same("another is the dearest", w.clear(1), 6);
        CHECK.same("in two", w.clear(2), 2);
        w.ask(2, 27);
        CHECK.same("of two with the same sum the smaller set", w.clear(2), 2);
        w.ask(1, 69);
        w.ask(2, 69);
        CHECK.same("of three the smallest", w.clear(1), 3);
        CHECK.same("in two of three the smallest", w.clear(2), 1);
        CHECK.same("in three", w.clear(3), 0);
        CHECK.same("in six", w.clear(6), 0);
        smallerSumOfMore();
    }

    private static void smallerSumOfMore() {
        Wavesale w = sale(3, 0, 1, 1, 2);
        w.station(1, 100);
        w.station(0, 30);
        w.station(2, 69);
        CHECK.same("two for less than one", w.clear(1), 6);
        w.ask(2, 70);
        CHECK.same("for the same, the smaller set", w.clear(1), 1);
    }

    private static void promise18ManyStations() {
        Wavesale w = sale(1);
        for (int k = 0; k < 10; k++) {
            w.station(0, 100 - k);
        }
        CHECK.same("all but the dearest", w.clear(1), 1022);
        CHECK.same("the cheapest four", w.clear(6), 960);
    }
}
