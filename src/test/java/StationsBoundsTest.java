/** Promises 14 to 18 and part 5, sentence by sentence. */
public final class StationsBoundsTest {
    private static final Check CHECK = new Check("StationsBoundsTest");

    public static void main(String[] args) {
        stationRegions();
        stationAsks();
        stationTen();
        stationStages();
        askPlaces();
        askNumbers();
        askBefore();
        packsSets();
        packsChannels();
        packsNothing();
        packsAsManyAsChannels();
        packsInSameRegionOrNeighbours();
        channelPlaces();
        channelSets();
        channelChannels();
        channelOfNone();
        channelSmallest();
        channelOfFurtherOnes();
        clearChannels();
        clearNothing();
        clearAll();
        clearLeastSum();
        clearSmallestSet();
        clearByAsksOfNow();
        CHECK.end();
    }

    private static Wavesale stations(int many) {
        Wavesale w = new Wavesale();
        w.region(1, 1, 1);
        for (int k = 0; k < many; k++) {
            w.station(0, 5);
        }
        return w;
    }

    private static void stationRegions() {
        CHECK.promise(14, "Throws `IndexOutOfBoundsException` if there is no such REGION");
        Wavesale none = new Wavesale();
        CHECK.noPlace("without regions", none, () -> none.station(0, 5));
        for (int stage = 0; stage <= 3; stage++) {
            Wavesale w = Sales.inStage(stage);
            for (int far : new int[] {2, -1, Integer.MIN_VALUE, Integer.MAX_VALUE}) {
                CHECK.noPlace("region " + far + " in stage " + stage, w, () -> w.station(far, 5));
                CHECK.noPlace("region " + far + ", ask 0", w, () -> w.station(far, 0));
            }
            CHECK.same("the last", w.station(1, 5), 1);
        }
        Wavesale full = stations(10);
        CHECK.noPlace("no region for an eleventh", full, () -> full.station(1, 5));
        CHECK.noPlace("nor an ask", full, () -> full.station(1, 0));
    }

    private static void stationAsks() {
        CHECK.promise(14, "Throws `IllegalArgumentException` if ask is not 1 to 9999");
        for (int many : new int[] {0, 10}) {
            Wavesale w = stations(many);
            CHECK.noArgument("ask 0 behind " + many, w, () -> w.station(0, 0));
            CHECK.noArgument("ask 10000 behind " + many, w, () -> w.station(0, 10000));
            for (int far : Sales.FAR_OFF) {
                CHECK.noArgument("ask " + far + " behind " + many, w, () -> w.station(0, far));
            }
        }
        Wavesale w = stations(0);
        CHECK.same("ask 1", w.station(0, 1), 0);
        CHECK.same("ask 9999", w.station(0, 9999), 1);
        CHECK.same("that was 1", w.ask(0, 2), 1);
        CHECK.same("that was 9999", w.ask(1, 2), 9999);
    }

    private static void stationTen() {
        CHECK.promise(14, "Throws `IllegalStateException` if there are 10");
        CHECK.promise(14, "Returns its number.");
        Wavesale w = stations(0);
        for (int k = 0; k < 10; k++) {
            CHECK.same("stations", w.sale(4), k);
            CHECK.same("number", w.station(0, 1 + k), k);
        }
        CHECK.part(5, "STATIONS: at most 10, numbered from 0, each in a REGION, with an ASK (1 to 9999); told in any STAGE.");
        CHECK.noState("an eleventh", w, () -> w.station(0, 5));
        CHECK.same("stations", w.sale(4), 10);
        CHECK.same("in the region", w.ofRegion(0, 8), 10);
        CHECK.same("the first one's ask", w.ask(0, 5), 1);
        CHECK.same("the last one's ask", w.ask(9, 5), 10);
    }

    private static void stationStages() {
        CHECK.part(5, "told in any STAGE");
        for (int stage = 0; stage <= 3; stage++) {
            Wavesale w = Sales.inStage(stage);
            for (int k = 1; k < 10; k++) {
                CHECK.same("number in stage " + stage, w.station(k % 2, 5), k);
            }
            CHECK.noState("an eleventh in stage " + stage, w, () -> w.station(0, 5));
            CHECK.same("stage", w.sale(0), stage);
        }
    }

    private static void askPlaces() {
        CHECK.promise(15, "Throws `IndexOutOfBoundsException` if there is no such STATION");
        Wavesale none = stations(0);
        CHECK.noPlace("without stations", none, () -> none.ask(0, 5));
        for (int many : new int[] {1, 10}) {
            Wavesale w = stations(many);
            for (int far : new int[] {many, -1, Integer.MIN_VALUE, Integer.MAX_VALUE}) {
                CHECK.noPlace("station " + far + " of " + many, w, () -> w.ask(far, 5));
                CHECK.noPlace("station " + far + " of " + many + ", ask 0", w, () -> w.ask(far, 0));
            }
            CHECK.same("the last", w.ask(many - 1, 6), 5);
        }
    }

    private static void askNumbers() {
        CHECK.promise(15, "Throws `IllegalArgumentException` if ask is not 1 to 9999");
        for (int stage = 0; stage <= 3; stage++) {
            Wavesale w = Sales.inStage(stage);
            CHECK.noArgument("0", w, () -> w.ask(0, 0));
            CHECK.noArgument("10000", w, () -> w.ask(0, 10000));
            for (int far : Sales.FAR_OFF) {
                CHECK.noArgument("ask " + far, w, () -> w.ask(0, far));
            }
            CHECK.same("1", w.ask(0, 1), 50);
            CHECK.same("9999", w.ask(0, 9999), 1);
        }
    }

    private static void askBefore() {
        CHECK.promise(15, "Returns that before.");
        Wavesale w = stations(10);
        for (int k = 0; k < 10; k++) {
            CHECK.same("of " + k, w.ask(k, 100 + k), 5);
        }
        for (int k = 0; k < 10; k++) {
            CHECK.noArgument("one that is refused", w, () -> w.ask(0, 10000));
            CHECK.same("of " + k + " then", w.ask(k, 1), 100 + k);
        }
    }

    private static void packsSets() {
        CHECK.promise(16, "Throws `IllegalArgumentException` if set is below 0, or has one that is not there, or channels is not 1 to 6");
        for (int many = 0; many <= 10; many++) {
            Wavesale w = stations(many);
            int all = (1 << many) - 1;
            CHECK.same("all " + many, w.packs(all, 6), many <= 6);
            CHECK.noArgument("one more than " + many, w, () -> w.packs(all + 1, 6));
            CHECK.noArgument("all and one more", w, () -> w.packs(all + all + 1 + (all == 0 ? 1 : 0), 6));
            for (int far : Sales.FAR_OFF) {
                CHECK.noArgument("set " + far, w, () -> w.packs(far, 6));
            }
        }
    }

    private static void packsChannels() {
        CHECK.promise(16, "or channels is not 1 to 6");
        for (int many : new int[] {0, 1, 10}) {
            Wavesale w = stations(many);
            CHECK.noArgument("0", w, () -> w.packs(0, 0));
            CHECK.noArgument("7", w, () -> w.packs(0, 7));
            for (int far : Sales.FAR_OFF) {
                CHECK.noArgument("channels " + far, w, () -> w.packs(0, far));
            }
            CHECK.isTrue("1", w.packs(0, 1));
            CHECK.isTrue("6", w.packs(0, 6));
        }
    }

    private static void packsNothing() {
        CHECK.promise(16, "Returns whether it can be PACKED.");
        for (int channels = 1; channels <= 6; channels++) {
            CHECK.isTrue("nothing of nothing", new Wavesale().packs(0, channels));
            CHECK.isTrue("nothing of ten", stations(10).packs(0, channels));
            CHECK.isTrue("the first of ten", stations(10).packs(1, channels));
            CHECK.isTrue("the last of ten", stations(10).packs(512, channels));
        }
    }

    private static void packsAsManyAsChannels() {
        CHECK.part(5, "A set of STATIONS can be PACKED in so many CHANNELS (1 to 6), if each can have one so that none DISTURB each other");
        Wavesale w = stations(10);
        for (int many = 0; many <= 10; many++) {
            for (int channels = 1; channels <= 6; channels++) {
                int set = (1 << many) - 1;
                CHECK.same(many + " in " + channels, w.packs(set, channels), many <= channels);
                CHECK.same("the last " + many + " in " + channels,
                        w.packs(set << 10 - many, channels), many <= channels);
            }
        }
    }

    private static void packsInSameRegionOrNeighbours() {
        CHECK.part(5, "Two DISTURB each other on the same CHANNEL, if they are in the same REGION, or in NEIGHBOURS.");
        Wavesale w = new Wavesale();
        for (int k = 0; k < 5; k++) {
            w.region(1, 1, 1);
            w.station(k, 5);
            w.station(k, 5);
        }
        w.border(0, 4);
        w.border(4, 2);
        CHECK.isTrue("in the same region", !w.packs(3, 1));
        CHECK.isTrue("in neighbours", !w.packs(1 + 256, 1));
        CHECK.isTrue("in neighbours, told the other way round", !w.packs(16 + 512, 1));
        CHECK.isTrue("in neighbours of a neighbour", w.packs(1 + 16, 1));
        CHECK.isTrue("in no neighbours", w.packs(1 + 4 + 16 + 64, 1));
        CHECK.isTrue("two of each want four", !w.packs(1023, 3));
        CHECK.isTrue("four are enough", w.packs(1023, 4));
    }

    private static void channelPlaces() {
        CHECK.promise(17, "Throws `IndexOutOfBoundsException` if there is no such STATION");
        Wavesale none = stations(0);
        CHECK.noPlace("without stations", none, () -> none.channel(0, 1, 0));
        for (int many : new int[] {1, 10}) {
            Wavesale w = stations(many);
            for (int far : new int[] {many, -1, Integer.MIN_VALUE, Integer.MAX_VALUE}) {
                CHECK.noPlace("station " + far + " of " + many, w, () -> w.channel(0, 1, far));
                CHECK.noPlace("station " + far + ", no set", w, () -> w.channel(-1, 1, far));
                CHECK.noPlace("station " + far + ", no channels", w, () -> w.channel(0, 7, far));
            }
            CHECK.same("the last", w.channel(1 << many - 1, 1, many - 1), 0);
        }
    }

    private static void channelSets() {
        CHECK.promise(17, "Throws `IllegalArgumentException` if set is below 0, or has one that is not there, or channels is not 1 to 6");
        for (int many = 1; many <= 10; many++) {
            Wavesale w = stations(many);
            int all = (1 << many) - 1;
            CHECK.same("all " + many, w.channel(all, 6, 0), many <= 6 ? 0 : -1);
            CHECK.noArgument("one more than " + many, w, () -> w.channel(all + 1, 6, 0));
            for (int far : Sales.FAR_OFF) {
                CHECK.noArgument("set " + far, w, () -> w.channel(far, 6, 0));
            }
        }
    }

    private static void channelChannels() {
        CHECK.promise(17, "or channels is not 1 to 6");
        Wavesale w = stations(10);
        CHECK.noArgument("0", w, () -> w.channel(1, 0, 0));
        CHECK.noArgument("7", w, () -> w.channel(1, 7, 0));
        for (int far : Sales.FAR_OFF) {
            CHECK.noArgument("channels " + far, w, () -> w.channel(1, far, 0));
        }
        CHECK.same("1", w.channel(1, 1, 0), 0);
        CHECK.same("6", w.channel(63, 6, 5), 5);
    }

    private static void channelOfNone() {
        CHECK.promise(17, "Returns its CHANNEL in the PACKING (from 0 on); NONE, if it is not in the set, or that can not be PACKED.");
        Wavesale w = stations(10);
        CHECK.same("of the empty set", w.channel(0, 6, 0), -1);
        CHECK.same("of another", w.channel(512, 6, 0), -1);
        CHECK.same("of itself", w.channel(512, 6, 9), 0);
        for (int station = 0; station < 7; station++) {
            CHECK.same("seven in six", w.channel(127, 6, station), -1);
        }
        CHECK.same("six in six", w.channel(126, 6, 6), 5);
        CHECK.same("one that is not among these", w.channel(126, 6, 0), -1);
    }

    private static void channelSmallest() {
        CHECK.part(5, "STATION by STATION the smallest CHANNEL with which all further ones can be PACKED still");
        Wavesale w = stations(10);
        for (int first = 0; first <= 4; first++) {
            int set = 63 << first;
            for (int station = first; station < first + 6; station++) {
                CHECK.same("of six from " + first, w.channel(set, 6, station), station - first);
            }
        }
        CHECK.same("one for all that do not disturb", Sales.inStage(0).channel(1, 6, 0), 0);
    }

    /** Regions in a line: both ends get 0, unless the two between them want one of their own each, and two are all. */
    private static void channelOfFurtherOnes() {
        CHECK.part(5, "with which all further ones can be PACKED still");
        Wavesale w = new Wavesale();
        for (int k = 0; k < 4; k++) {
            w.region(1, 1, 1);
        }
        w.border(0, 1);
        w.border(1, 2);
        w.border(2, 3);
        w.station(0, 5);
        w.station(3, 5);
        w.station(1, 5);
        w.station(2, 5);
        CHECK.same("0 alone", w.channel(2, 2, 1), 0);
        CHECK.same("0 with one of the two", w.channel(7, 2, 1), 0);
        CHECK.same("1 with both", w.channel(15, 2, 1), 1);
        CHECK.same("0 with both, in three", w.channel(15, 3, 1), 0);
        CHECK.same("the last one then", w.channel(15, 3, 3), 2);
    }

    private static void clearChannels() {
        CHECK.promise(18, "Throws `IllegalArgumentException` if channels is not 1 to 6");
        for (int many : new int[] {0, 1, 10}) {
            Wavesale w = stations(many);
            CHECK.noArgument("0", w, () -> w.clear(0));
            CHECK.noArgument("7", w, () -> w.clear(7));
            for (int far : Sales.FAR_OFF) {
                CHECK.noArgument("channels " + far, w, () -> w.clear(far));
            }
        }
    }

    private static void clearNothing() {
        CHECK.promise(18, "Returns the set of STATIONS that are bought, to CLEAR so that these are left.");
        for (int channels = 1; channels <= 6; channels++) {
            CHECK.same("of nothing", new Wavesale().clear(channels), 0);
            CHECK.same("as many as there are channels", stations(channels).clear(channels), 0);
            CHECK.same("one more", stations(channels + 1).clear(channels), 1);
        }
    }

    private static void clearAll() {
        CHECK.part(5, "so that all others can be PACKED in these, with the least sum of ASKS");
        Wavesale w = stations(10);
        for (int channels = 1; channels <= 6; channels++) {
            CHECK.same("all but the last " + channels, w.clear(channels), (1 << 10 - channels) - 1);
        }
        for (int k = 0; k < 10; k++) {
            w.ask(k, 9999);
        }
        CHECK.same("for 9999 each", w.clear(1), 511);
        w.ask(0, 9999);
        w.ask(9, 9998);
        CHECK.same("the last one is cheaper by 1", w.clear(1), 1023 - 256);
    }

    private static void clearLeastSum() {
        CHECK.part(5, "with the least sum of ASKS");
        Wavesale w = new Wavesale();
        w.region(1, 1, 1);
        w.region(1, 1, 1);
        w.region(1, 1, 1);
        w.border(0, 1);
        w.border(1, 2);
        w.station(1, 61);
        w.station(0, 30);
        w.station(2, 30);
        CHECK.same("60 against 61", w.clear(1), 6);
        w.ask(0, 60);
        CHECK.same("60 against 60: the smaller set", w.clear(1), 1);
        w.ask(0, 59);
        CHECK.same("60 against 59", w.clear(1), 1);
        CHECK.same("in two", w.clear(2), 0);
    }

    private static void clearSmallestSet() {
        CHECK.part(5, "of several the one with the smallest number as a set");
        Wavesale w = stations(3);
        CHECK.same("of three, two", w.clear(1), 3);
        CHECK.same("of three, one", w.clear(2), 1);
        w.ask(0, 6);
        CHECK.same("of the last two, one", w.clear(2), 2);
        w.ask(1, 6);
        CHECK.same("the last one", w.clear(2), 4);
        CHECK.same("the last one, and the first of two", w.clear(1), 5);
    }

    private static void clearByAsksOfNow() {
        CHECK.promise(15, "`ask`: its ASK from now on");
        Wavesale w = stations(2);
        CHECK.same("of the same", w.clear(1), 1);
        w.ask(0, 6);
        CHECK.same("of the cheaper", w.clear(1), 2);
        CHECK.noArgument("an ask that is refused", w, () -> w.ask(0, 0));
        CHECK.same("as before", w.clear(1), 2);
        w.ask(1, 7);
        CHECK.same("of the cheaper then", w.clear(1), 1);
    }
}
