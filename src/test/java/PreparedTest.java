/** Promises 1 to 7: what is told while the sale is being prepared, and its end. */
public final class PreparedTest {
    private static final Check CHECK = new Check("PreparedTest");

    public static void main(String[] args) {
        promise1NewObject();
        promise2Region();
        promise3Border();
        promise4Bidder();
        promise5Rules();
        promise6Step();
        promise7Open();
        CHECK.end();
    }

    private static void promise1NewObject() {
        Wavesale w = new Wavesale();
        int[] due = {0, 0, 0, 0, 0, 5, 1, 10, 0, 0, 0, 0, 0, 0, 0, 0, 0};
        for (int what = 0; what < due.length; what++) {
            CHECK.same("sale " + what + " of a new object", w.sale(what), due[what]);
        }
        CHECK.noPlace("region 0 of a new object", () -> w.ofRegion(0, 0));
        CHECK.noPlace("bidder 0 of a new object", () -> w.ofBidder(0, 0));
        CHECK.same("worth of nobody", w.worth(0), 0);
        CHECK.same("clear without stations", w.clear(1), 0);
        CHECK.isTrue("packing of nothing", w.packs(0, 1));
        CHECK.isTrue("a new object is sound", w.isSound());
        w.knock();
        CHECK.same("another object has a state of its own", new Wavesale().sale(16), 0);
    }

    private static void promise2Region() {
        Wavesale w = new Wavesale();
        CHECK.same("first region", w.region(1, 1, 1), 0);
        CHECK.same("second region", w.region(5, 9, 999), 1);
        CHECK.same("its supply", w.ofRegion(1, 0), 5);
        CHECK.same("its points", w.ofRegion(1, 1), 9);
        CHECK.same("its start price", w.ofRegion(1, 2), 999);
        CHECK.same("its price", w.ofRegion(1, 3), 999);
        CHECK.same("the first one's price", w.ofRegion(0, 3), 1);
        CHECK.noArgument("supply 0", () -> w.region(0, 1, 1));
        CHECK.noArgument("supply 6", () -> w.region(6, 1, 1));
        CHECK.noArgument("points 0", () -> w.region(1, 0, 1));
        CHECK.noArgument("points 10", () -> w.region(1, 10, 1));
        CHECK.noArgument("price 0", () -> w.region(1, 1, 0));
        CHECK.noArgument("price 1000", () -> w.region(1, 1, 1000));
        CHECK.noArgument("supply far off", () -> w.region(Integer.MIN_VALUE, 1, 1));
        CHECK.same("regions after wrong ones", w.sale(2), 2);
        w.region(2, 2, 2);
        w.region(2, 2, 2);
        CHECK.same("fifth region", w.region(2, 2, 2), 4);
        CHECK.noState("sixth region", () -> w.region(2, 2, 2));
        CHECK.noArgument("sixth region, and no supply", () -> w.region(0, 2, 2));
        CHECK.same("regions", w.sale(2), 5);
        Wavesale open = opened();
        CHECK.noState("region behind the opening", () -> open.region(1, 1, 1));
        CHECK.noArgument("wrong region behind the opening", () -> open.region(1, 1, 1000));
    }

    private static void promise3Border() {
        Wavesale w = new Wavesale();
        CHECK.noPlace("border without regions", () -> w.border(0, 0));
        w.region(1, 1, 1);
        CHECK.noArgument("border with itself", () -> w.border(0, 0));
        CHECK.noPlace("border with the one that is not there", () -> w.border(0, 1));
        CHECK.noPlace("border of the one that is not there", () -> w.border(1, 0));
        CHECK.noPlace("border below 0", () -> w.border(-1, 0));
        CHECK.noPlace("border below 0, of the second", () -> w.border(0, -1));
        CHECK.noPlace("border of what is not there with itself", () -> w.border(1, 1));
        for (int k = 1; k < 5; k++) {
            w.region(1, 1, 1);
        }
        CHECK.same("first pair", w.border(3, 1), 1);
        CHECK.same("the same pair", w.border(3, 1), 1);
        CHECK.same("the same pair the other way round", w.border(1, 3), 1);
        CHECK.same("second pair", w.border(0, 1), 2);
        CHECK.same("third pair", w.border(4, 3), 3);
        CHECK.same("neighbours of 1", w.ofRegion(1, 7), 9);
        CHECK.same("neighbours of 3", w.ofRegion(3, 7), 18);
        CHECK.same("neighbours of 0", w.ofRegion(0, 7), 2);
        CHECK.same("neighbours of 2", w.ofRegion(2, 7), 0);
        CHECK.same("neighbours of 4", w.ofRegion(4, 7), 8);
        w.bidder(1, 1, 1, 1);
        w.open();
        CHECK.noState("border behind the opening", () -> w.border(0, 2));
        CHECK.noArgument("border with itself behind the opening", () -> w.border(2, 2));
        CHECK.noPlace("border with nothing behind the opening", () -> w.border(2, 5));
        CHECK.same("neighbours of 2 behind that", w.ofRegion(2, 7), 0);
    }

    private static void promise4Bidder() {
        Wavesale w = new Wavesale();
        CHECK.same("first bidder", w.bidder(0, 1, 0, 0), 0);
        CHECK.same("second bidder", w.bidder(99999, 200, 30, 3), 1);
        int[] due = {99999, 200, 30, 3, 2, 0, 0, 0, 0, 0, 0};
        for (int what = 0; what < due.length; what++) {
            CHECK.same("fact " + what + " of the second bidder", w.ofBidder(1, what), due[what]);
        }
        CHECK.noArgument("budget below 0", () -> w.bidder(-1, 1, 0, 0));
        CHECK.noArgument("budget 100000", () -> w.bidder(100000, 1, 0, 0));
        CHECK.noArgument("eligible for nothing", () -> w.bidder(0, 0, 0, 0));
        CHECK.noArgument("eligible for 201", () -> w.bidder(0, 201, 0, 0));
        CHECK.noArgument("credit below 0", () -> w.bidder(0, 1, -1, 0));
        CHECK.noArgument("credit 31", () -> w.bidder(0, 1, 31, 0));
        CHECK.noArgument("group below 0", () -> w.bidder(0, 1, 0, -1));
        CHECK.noArgument("group 4", () -> w.bidder(0, 1, 0, 4));
        CHECK.same("bidders after wrong ones", w.sale(3), 2);
        for (int k = 2; k < 6; k++) {
            CHECK.same("bidder " + k, w.bidder(k, k, k, 0), k);
        }
        CHECK.noState("seventh bidder", () -> w.bidder(0, 1, 0, 0));
        CHECK.noArgument("seventh bidder with a wrong group", () -> w.bidder(0, 1, 0, 4));
        CHECK.same("bidders", w.sale(3), 6);
        Wavesale open = opened();
        CHECK.noState("bidder behind the opening", () -> open.bidder(0, 1, 0, 0));
        CHECK.noArgument("wrong bidder behind the opening", () -> open.bidder(0, 0, 0, 0));
    }

    private static void promise5Rules() {
        Wavesale w = new Wavesale();
        CHECK.same("cap at first", w.rules(1, false), 5);
        CHECK.same("cap then", w.sale(5), 1);
        CHECK.same("no rule then", w.sale(6), 0);
        CHECK.same("cap before", w.rules(5, true), 1);
        CHECK.same("the rule again", w.sale(6), 1);
        w.rules(3, false);
        CHECK.noArgument("cap 0", () -> w.rules(0, true));
        CHECK.noArgument("cap 6", () -> w.rules(6, true));
        CHECK.same("cap behind wrong ones", w.sale(5), 3);
        CHECK.same("rule behind wrong ones", w.sale(6), 0);
        Wavesale open = opened();
        CHECK.noState("rules behind the opening", () -> open.rules(2, true));
        CHECK.noArgument("wrong rules behind the opening", () -> open.rules(0, true));
        CHECK.same("cap behind that", open.sale(5), 5);
    }

    private static void promise6Step() {
        Wavesale w = new Wavesale();
        CHECK.same("step at first", w.step(1), 10);
        CHECK.same("step before", w.step(20), 1);
        CHECK.noArgument("step 0", () -> w.step(0));
        CHECK.noArgument("step 21", () -> w.step(21));
        CHECK.same("step behind wrong ones", w.sale(7), 20);
        Wavesale open = opened();
        CHECK.same("step while the clock runs", open.step(7), 10);
        CHECK.same("that step", open.sale(7), 7);
        open.close(1);
        CHECK.noState("step behind the clock", () -> open.step(5));
        CHECK.noArgument("wrong step behind the clock", () -> open.step(0));
        open.settle(0);
        CHECK.noState("step of a settled sale", () -> open.step(5));
        CHECK.same("step behind that", open.sale(7), 7);
        stepIsForRoundsFromNowOn();
    }

    private static void stepIsForRoundsFromNowOn() {
        Wavesale w = new Wavesale();
        w.region(1, 1, 100);
        w.bidder(0, 9, 0, 0);
        w.bidder(0, 9, 0, 0);
        w.open();
        w.wish(0, 0, 1);
        w.wish(1, 0, 1);
        w.step(20);
        w.close(1);
        w.step(5);
        w.close(1);
        CHECK.same("price behind steps of 20 and 5", w.ofRegion(0, 3), 126);
        CHECK.same("the log keeps its steps", w.anew(1, 0, 0, 1), 126);
    }

    private static void promise7Open() {
        Wavesale w = new Wavesale();
        CHECK.noState("opening of nothing", w::open);
        w.region(1, 1, 20);
        CHECK.noState("opening without a bidder", w::open);
        CHECK.same("stage still", w.sale(0), 0);
        Wavesale empty = new Wavesale();
        empty.bidder(1, 1, 0, 0);
        CHECK.noState("opening without a region", empty::open);
        w.bidder(1, 1, 0, 0);
        w.region(2, 1, 300);
        CHECK.same("opening", w.open(), 320);
        CHECK.same("stage", w.sale(0), 1);
        CHECK.same("round", w.sale(1), 1);
        CHECK.same("rounds of the log", w.sale(15), 0);
        CHECK.noState("opening twice", w::open);
        w.close(1);
        CHECK.noState("opening behind the clock", w::open);
    }

    private static Wavesale opened() {
        Wavesale w = new Wavesale();
        w.region(1, 1, 1);
        w.bidder(1, 1, 0, 0);
        w.open();
        return w;
    }
}
