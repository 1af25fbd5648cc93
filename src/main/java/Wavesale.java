import java.util.Arrays;

/**
 * An auction of the air: a clock, packages, winners and payments, names, old stations, and a log.
 * Words in capitals are those of the document; a set is the sum of 2^k for each number k.
 */
public final class Wavesale {
    private static final int NONE = -1;

    private static final int MAX_REGIONS = 5;
    private static final int MAX_BLOCKS = 5;
    private static final int MAX_POINTS = 9;
    private static final int MAX_START = 999;
    private static final int MAX_BIDDERS = 6;
    private static final int MAX_BUDGET = 99999;
    private static final int MAX_ELIGIBLE = 200;
    private static final int MAX_CREDIT = 30;
    private static final int MAX_GROUP = 3;
    private static final int FIRST_WAIVERS = 2;
    private static final int FIRST_STEP = 10;
    private static final int MAX_STEP = 20;
    private static final int MAX_PRICE = 9999;
    private static final int MAX_ROUNDS = 60;
    private static final int MAX_CLOSED = 9;
    private static final int MAX_PACKAGES = 6;
    private static final int MAX_STATIONS = 10;
    private static final int MAX_ASK = 9999;
    private static final int MAX_CHANNELS = 6;

    private static final int SETS = 1 << MAX_BIDDERS;
    private static final int ALL = SETS - 1;
    private static final int WAYS = 3;
    private static final int FULL = 0;
    private static final int HARM = 1;
    private static final int CORE = 2;

    private static final int PREPARED = 0;
    private static final int RUNNING = 1;
    private static final int TOLD = 2;
    private static final int SETTLED = 3;

    private static final int REGION_FACTS = 9;
    private static final int BIDDER_FACTS = 11;
    private static final int SALE_FACTS = 17;

    private final Terms terms;
    private final Clock clock;
    private final Clock replay;
    private final Market market;
    private final Payments payments;
    private final Names names;
    private final Stations stations;
    private int stage;
    private int step;
    private int way;
    private int deposits;
    private int refused;

    public Wavesale() {
        terms = new Terms();
        clock = new Clock();
        replay = new Clock();
        market = new Market();
        payments = new Payments();
        names = new Names();
        stations = new Stations();
        stage = PREPARED;
        step = FIRST_STEP;
    }

    // ---- what is prepared

    public int region(int supply, int points, int price)
            throws IllegalArgumentException, IllegalStateException {
        needBetween(supply, 1, MAX_BLOCKS);
        needBetween(points, 1, MAX_POINTS);
        needBetween(price, 1, MAX_START);
        needStage(PREPARED);
        if (terms.regions >= MAX_REGIONS) {
            throw new IllegalStateException("there is no room for another region");
        }
        int number = terms.addRegion(supply, points, price);
        clock.begin(terms);
        return number;
    }

    public int border(int one, int two)
            throws IndexOutOfBoundsException, IllegalArgumentException, IllegalStateException {
        needRegion(one);
        needRegion(two);
        if (one == two) {
            throw new IllegalArgumentException("a region is no neighbour of itself");
        }
        needStage(PREPARED);
        return terms.addBorder(one, two);
    }

    public int bidder(int budget, int eligible, int credit, int group)
            throws IllegalArgumentException, IllegalStateException {
        needBetween(budget, 0, MAX_BUDGET);
        needBetween(eligible, 1, MAX_ELIGIBLE);
        needBetween(credit, 0, MAX_CREDIT);
        needBetween(group, 0, MAX_GROUP);
        needStage(PREPARED);
        if (terms.bidders >= MAX_BIDDERS) {
            throw new IllegalStateException("there is no room for another bidder");
        }
        int number = terms.addBidder(budget, eligible, credit, group);
        clock.begin(terms);
        return number;
    }

    public int rules(int cap, boolean isRule) throws IllegalArgumentException, IllegalStateException {
        needBetween(cap, 1, MAX_BLOCKS);
        needStage(PREPARED);
        int before = terms.cap;
        terms.cap = cap;
        terms.isRule = isRule;
        return before;
    }

    public int step(int step) throws IllegalArgumentException, IllegalStateException {
        needBetween(step, 1, MAX_STEP);
        if (stage != PREPARED && stage != RUNNING) {
            throw new IllegalStateException("the clock is over");
        }
        int before = this.step;
        this.step = step;
        return before;
    }

    // ---- the clock

    public int open() throws IllegalStateException {
        needStage(PREPARED);
        if (terms.regions == 0 || terms.bidders == 0) {
            throw new IllegalStateException("a clock needs a region and a bidder");
        }
        stage = RUNNING;
        return clock.allPrices();
    }

    public int wish(int bidder, int region, int many)
            throws IndexOutOfBoundsException, IllegalArgumentException, IllegalStateException {
        needBidder(bidder);
        needRegion(region);
        needBetween(many, 0, MAX_BLOCKS);
        needStage(RUNNING);
        if (!clock.mayWish(terms, bidder, region, many)) {
            throw new IllegalStateException("more than the bidder may wish");
        }
        clock.wished[bidder] = Bundle.replaced(clock.wished[bidder], region, many);
        return Bundle.total(clock.wished[bidder], terms.points);
    }

    public int waive(int bidder) throws IndexOutOfBoundsException, IllegalStateException {
        needBidder(bidder);
        needStage(RUNNING);
        if (clock.waivers[bidder] <= 0 || clock.hasWaived(bidder)) {
            throw new IllegalStateException("the bidder has no waiver for this round");
        }
        clock.useWaiver(bidder);
        return clock.waivers[bidder];
    }

    public int close(int rounds) throws IllegalArgumentException, IllegalStateException {
        needBetween(rounds, 1, MAX_CLOSED);
        needStage(RUNNING);
        for (int closed = 0; closed < rounds && stage == RUNNING; closed++) {
            if (clock.closeRound(terms, step)) {
                endClock();
            }
        }
        return stage;
    }

    // ---- packages, winners, payments

    public int offer(int bidder, int code, int amount)
            throws IndexOutOfBoundsException, IllegalArgumentException, IllegalStateException {
        needBidder(bidder);
        if (!terms.isCode(code) || amount < 0) {
            throw new IllegalArgumentException("no such bundle, or an amount below 0");
        }
        needStage(TOLD);
        if (market.counts[bidder] >= MAX_PACKAGES || !terms.mayOffer(bidder, code, amount)) {
            throw new IllegalStateException("the bidder may not tell this package");
        }
        int number = market.counts[bidder];
        market.add(terms, bidder, code, amount);
        payments.find(market);
        return number;
    }

    public int settle(int way) throws IllegalArgumentException, IllegalStateException {
        needBetween(way, FULL, CORE);
        needStage(TOLD);
        this.way = way;
        stage = SETTLED;
        names.give(terms, market);
        return market.winners();
    }

    public int fail(int bidder) throws IndexOutOfBoundsException, IllegalStateException {
        needBidder(bidder);
        needStage(SETTLED);
        if (market.winner[bidder] == NONE) {
            throw new IllegalStateException("the bidder is no winner");
        }
        int deposit = market.amountWon(bidder) / 10;
        deposits += deposit;
        market.leaveOut(bidder);
        payments.find(market);
        names.give(terms, market);
        return deposit;
    }

    // ---- old stations

    public int station(int region, int ask)
            throws IndexOutOfBoundsException, IllegalArgumentException, IllegalStateException {
        needRegion(region);
        needBetween(ask, 1, MAX_ASK);
        if (stations.count >= MAX_STATIONS) {
            throw new IllegalStateException("there is no room for another station");
        }
        return stations.add(region, ask);
    }

    public int ask(int station, int ask) throws IndexOutOfBoundsException, IllegalArgumentException {
        needStation(station);
        needBetween(ask, 1, MAX_ASK);
        int before = stations.asks[station];
        stations.asks[station] = ask;
        return before;
    }

    public boolean packs(int set, int channels) throws IllegalArgumentException {
        needSet(set, stations.count);
        needBetween(channels, 1, MAX_CHANNELS);
        return stations.pack(terms, set, channels);
    }

    public int channel(int set, int channels, int station)
            throws IndexOutOfBoundsException, IllegalArgumentException {
        needStation(station);
        needSet(set, stations.count);
        needBetween(channels, 1, MAX_CHANNELS);
        return stations.pack(terms, set, channels) ? stations.channelOf(station) : NONE;
    }

    public int clear(int channels) throws IllegalArgumentException {
        needBetween(channels, 1, MAX_CHANNELS);
        return stations.cheapest(terms, channels);
    }

    // ---- what is asked

    public int ofRegion(int region, int what) throws IndexOutOfBoundsException, IllegalArgumentException {
        needRegion(region);
        needBetween(what, 0, REGION_FACTS - 1);
        return regionFact(region, what);
    }

    public int ofBidder(int bidder, int what) throws IndexOutOfBoundsException, IllegalArgumentException {
        needBidder(bidder);
        needBetween(what, 0, BIDDER_FACTS - 1);
        return bidderFact(bidder, what);
    }

    public int wants(int bidder, int region, boolean isHeld) throws IndexOutOfBoundsException {
        needBidder(bidder);
        needRegion(region);
        return Bundle.many(isHeld ? clock.held[bidder] : clock.wished[bidder], region);
    }

    public int priceIn(int round, int region) throws IndexOutOfBoundsException {
        needRound(round);
        needRegion(region);
        return clock.logPrice[round - 1][region];
    }

    public int codeIn(int round, int bidder, boolean isHeld) throws IndexOutOfBoundsException {
        needRound(round);
        needBidder(bidder);
        return isHeld ? clock.logHeld[round - 1][bidder] : clock.logWished[round - 1][bidder];
    }

    public int ofPackage(int bidder, int nth, boolean isAmount) throws IndexOutOfBoundsException {
        needBidder(bidder);
        if (nth < 0 || nth >= market.counts[bidder]) {
            throw new IndexOutOfBoundsException("there is no such package");
        }
        return isAmount ? market.amounts[bidder][nth] : market.codes[bidder][nth];
    }

    public int wins(int bidder) throws IndexOutOfBoundsException {
        needBidder(bidder);
        return market.winner[bidder];
    }

    public int pays(int bidder, boolean isDue) throws IndexOutOfBoundsException {
        needBidder(bidder);
        return isDue ? dueOf(bidder) : paymentOf(bidder);
    }

    public int holder(int region, int block) throws IndexOutOfBoundsException {
        needRegion(region);
        if (block < 0 || block >= terms.supply[region]) {
            throw new IndexOutOfBoundsException("there is no such block");
        }
        return names.holders[region][block];
    }

    public String chart(int region) throws IndexOutOfBoundsException {
        needRegion(region);
        StringBuilder signs = new StringBuilder();
        names.draw(terms, region, signs);
        return signs.toString();
    }

    public int sale(int what) throws IllegalArgumentException {
        needBetween(what, 0, SALE_FACTS - 1);
        return saleFact(what);
    }

    // ---- what would be

    public int worth(int set) throws IllegalArgumentException {
        needSet(set, terms.bidders);
        return market.worths[set];
    }

    public int wouldPay(int bidder, int way) throws IndexOutOfBoundsException, IllegalArgumentException {
        needBidder(bidder);
        needBetween(way, FULL, CORE);
        return payments.rows[way][bidder];
    }

    public int objects(int set, int way) throws IllegalArgumentException {
        needSet(set, terms.bidders);
        needBetween(way, FULL, CORE);
        return Math.max(0, payments.objection(market, set, way));
    }

    public int most(int bidder, int region) throws IndexOutOfBoundsException {
        needBidder(bidder);
        needRegion(region);
        return stage == RUNNING ? clock.greatestWish(terms, bidder, region) : NONE;
    }

    public int contradicts(int bidder) throws IndexOutOfBoundsException {
        needBidder(bidder);
        return stage == RUNNING ? clock.contradictedRound(bidder) : NONE;
    }

    public int anew(int round, int bidder, int region, int many)
            throws IndexOutOfBoundsException, IllegalArgumentException {
        needRound(round);
        needBidder(bidder);
        needRegion(region);
        needBetween(many, 0, MAX_BLOCKS);
        replay.runLog(terms, clock, round, bidder, region, many);
        return replay.allPrices();
    }

    public int knock() {
        refused++;
        return refused;
    }

    public boolean isSound() {
        replay.runLog(terms, clock, NONE, 0, 0, 0);
        return isReplaySame() && isClockSound() && isSettlementSound();
    }

    public long digest() {
        long d = 58282;
        for (int what = 0; what < SALE_FACTS; what++) {
            d = mixed(d, saleFact(what));
        }
        StringBuilder signs = new StringBuilder();
        for (int region = 0; region < terms.regions; region++) {
            d = withRegion(d, region, signs);
        }
        for (int bidder = 0; bidder < terms.bidders; bidder++) {
            d = withBidder(d, bidder);
        }
        d = withLastRound(d);
        if (stations.count > 0) {
            d = mixed(d, stations.cheapest(terms, 1));
            d = mixed(d, stations.cheapest(terms, 2));
        }
        return mixed(d, isSound() ? 1 : 0);
    }

    // ---- what calls may be made with

    private static void needBetween(int value, int least, int greatest) {
        if (value < least || value > greatest) {
            throw new IllegalArgumentException("a number is outside of its bounds");
        }
    }

    private static void needSet(int set, int count) {
        if (set < 0 || set >= 1 << count) {
            throw new IllegalArgumentException("the set has one that is not there");
        }
    }

    private void needStage(int wanted) {
        if (stage != wanted) {
            throw new IllegalStateException("this belongs to another stage");
        }
    }

    private void needRegion(int region) {
        if (region < 0 || region >= terms.regions) {
            throw new IndexOutOfBoundsException("there is no such region");
        }
    }

    private void needBidder(int bidder) {
        if (bidder < 0 || bidder >= terms.bidders) {
            throw new IndexOutOfBoundsException("there is no such bidder");
        }
    }

    private void needStation(int station) {
        if (station < 0 || station >= stations.count) {
            throw new IndexOutOfBoundsException("there is no such station");
        }
    }

    private void needRound(int round) {
        if (round < 1 || round > clock.rounds) {
            throw new IndexOutOfBoundsException("the log has no such round");
        }
    }

    // ---- what the calls are made of

    private void endClock() {
        stage = TOLD;
        for (int bidder = 0; bidder < terms.bidders; bidder++) {
            int code = clock.held[bidder];
            if (code != 0) {
                market.add(terms, bidder, code, clock.lastValue(code));
            }
        }
        payments.find(market);
    }

    private int paymentOf(int bidder) {
        return stage == SETTLED ? payments.rows[way][bidder] : 0;
    }

    private int dueOf(int bidder) {
        return paymentOf(bidder) * (100 - terms.credit[bidder]) / 100;
    }

    private int allDue() {
        int sum = 0;
        for (int bidder = 0; bidder < terms.bidders; bidder++) {
            sum += dueOf(bidder);
        }
        return sum;
    }

    private int roundNow() {
        return stage == RUNNING ? clock.rounds + 1 : clock.rounds;
    }

    private int regionFact(int region, int what) {
        switch (what) {
            case 0: return terms.supply[region];
            case 1: return terms.points[region];
            case 2: return terms.start[region];
            case 3: return clock.price[region];
            case 4: return Bundle.together(clock.held, region);
            case 5: return Bundle.together(clock.held, region) - terms.supply[region];
            case 6: return Bundle.together(clock.wished, region);
            case 7: return terms.neighbours[region];
            default: return stations.countIn(region);
        }
    }

    private int bidderFact(int bidder, int what) {
        switch (what) {
            case 0: return terms.budget[bidder];
            case 1: return clock.eligible[bidder];
            case 2: return terms.credit[bidder];
            case 3: return terms.group[bidder];
            case 4: return clock.waivers[bidder];
            case 5: return clock.held[bidder];
            case 6: return clock.wished[bidder];
            case 7: return Bundle.total(clock.wished[bidder], terms.points);
            case 8: return market.counts[bidder];
            case 9: return market.isOut(bidder) ? 1 : 0;
            default: return clock.contradictions[bidder];
        }
    }

    private int saleFact(int what) {
        switch (what) {
            case 0: return stage;
            case 1: return roundNow();
            case 2: return terms.regions;
            case 3: return terms.bidders;
            case 4: return stations.count;
            case 5: return terms.cap;
            case 6: return terms.isRule ? 1 : 0;
            case 7: return step;
            case 8: return clock.allContradictions();
            case 9: return market.winners();
            case 10: return market.worths[ALL];
            case 11: return allDue();
            case 12: return deposits;
            case 13: return names.clashes;
            case 14: return market.signals(terms);
            case 15: return clock.rounds;
            default: return refused;
        }
    }

    private boolean isClockSound() {
        for (int region = 0; region < terms.regions; region++) {
            if (clock.price[region] < terms.start[region]) {
                return false;
            }
        }
        for (int bidder = 0; bidder < terms.bidders; bidder++) {
            if (clock.eligible[bidder] < 0 || !Bundle.isWithin(clock.held[bidder], terms.supply)) {
                return false;
            }
        }
        return true;
    }

    private boolean isSettlementSound() {
        if (stage != SETTLED) {
            return true;
        }
        for (int bidder = 0; bidder < terms.bidders; bidder++) {
            if (paymentOf(bidder) > market.amountWon(bidder)) {
                return false;
            }
        }
        return names.agreeWith(terms, market);
    }

    private boolean isReplaySame() {
        for (int region = 0; region < terms.regions; region++) {
            if (replay.price[region] != clock.price[region]) {
                return false;
            }
        }
        for (int bidder = 0; bidder < terms.bidders; bidder++) {
            if (replay.held[bidder] != clock.held[bidder]) {
                return false;
            }
        }
        return true;
    }

    private static long mixed(long d, long v) {
        return d * 31 + v;
    }

    private long withRegion(long before, int region, StringBuilder signs) {
        long d = before;
        for (int what = 0; what < REGION_FACTS; what++) {
            d = mixed(d, regionFact(region, what));
        }
        signs.setLength(0);
        names.draw(terms, region, signs);
        d = mixed(d, signs.length());
        for (int block = 0; block < terms.supply[region]; block++) {
            d = mixed(d, names.holders[region][block]);
        }
        return d;
    }

    private long withBidder(long before, int bidder) {
        long d = before;
        for (int what = 0; what < BIDDER_FACTS; what++) {
            d = mixed(d, bidderFact(bidder, what));
        }
        d = mixed(d, market.winner[bidder]);
        d = mixed(d, paymentOf(bidder));
        d = mixed(d, dueOf(bidder));
        d = mixed(d, payments.rows[HARM][bidder]);
        d = mixed(d, payments.rows[CORE][bidder]);
        for (int nth = 0; nth < market.counts[bidder]; nth++) {
            d = mixed(d, market.amounts[bidder][nth]);
            d = mixed(d, market.codes[bidder][nth]);
        }
        return d;
    }

    private long withLastRound(long before) {
        if (clock.rounds == 0) {
            return before;
        }
        int last = clock.rounds - 1;
        long d = before;
        for (int region = 0; region < terms.regions; region++) {
            d = mixed(d, clock.logPrice[last][region]);
        }
        for (int bidder = 0; bidder < terms.bidders; bidder++) {
            d = mixed(d, clock.logWished[last][bidder]);
        }
        return d;
    }

    /** A bundle is kept as its code: its number of blocks of region r is digit r in base 6. */
    private static final class Bundle {
        private static final int BASE = 6;

        static int many(int code, int region) {
            int rest = code;
            for (int r = 0; r < region; r++) {
                rest /= BASE;
            }
            return rest % BASE;
        }

        static int replaced(int code, int region, int many) {
            int unit = 1;
            for (int r = 0; r < region; r++) {
                unit *= BASE;
            }
            return code + (many - many(code, region)) * unit;
        }

        static int total(int code, int[] each) {
            int rest = code;
            int sum = 0;
            for (int r = 0; r < each.length; r++) {
                sum += rest % BASE * each[r];
                rest /= BASE;
            }
            return sum;
        }

        static int together(int[] codes, int region) {
            int sum = 0;
            for (int k = 0; k < codes.length; k++) {
                sum += many(codes[k], region);
            }
            return sum;
        }

        static boolean isWithin(int code, int[] limits) {
            int rest = code;
            for (int r = 0; r < limits.length; r++) {
                if (rest % BASE > limits[r]) {
                    return false;
                }
                rest /= BASE;
            }
            return true;
        }

        /** How much dearer the first has become, against the second, from the prices then to those now. */
        static int dearer(int first, int second, int[] now, int[] then) {
            int one = first;
            int two = second;
            int sum = 0;
            for (int r = 0; r < now.length && r < then.length; r++) {
                sum += (now[r] - then[r]) * (one % BASE - two % BASE);
                one /= BASE;
                two /= BASE;
            }
            return sum;
        }
    }

    /** What is told while the sale is being prepared. */
    private static final class Terms {
        final int[] supply = new int[MAX_REGIONS];
        final int[] points = new int[MAX_REGIONS];
        final int[] start = new int[MAX_REGIONS];
        final int[] neighbours = new int[MAX_REGIONS];
        int regions;
        final int[] budget = new int[MAX_BIDDERS];
        final int[] eligible = new int[MAX_BIDDERS];
        final int[] credit = new int[MAX_BIDDERS];
        final int[] group = new int[MAX_BIDDERS];
        int bidders;
        int cap = MAX_BLOCKS;
        boolean isRule = true;

        int addRegion(int supplied, int pointsOfOne, int price) {
            int number = regions;
            if (number < MAX_REGIONS) {
                supply[number] = supplied;
                points[number] = pointsOfOne;
                start[number] = price;
                regions++;
            }
            return number;
        }

        int addBorder(int one, int two) {
            neighbours[one] |= 1 << two;
            neighbours[two] |= 1 << one;
            int ends = 0;
            for (int region = 0; region < regions; region++) {
                ends += Integer.bitCount(neighbours[region]);
            }
            return ends / 2;
        }

        int addBidder(int money, int eligiblePoints, int hundredths, int itsGroup) {
            int number = bidders;
            if (number < MAX_BIDDERS) {
                budget[number] = money;
                eligible[number] = eligiblePoints;
                credit[number] = hundredths;
                group[number] = itsGroup;
                bidders++;
            }
            return number;
        }

        boolean areNeighbours(int one, int two) {
            return (neighbours[one] & 1 << two) != 0;
        }

        boolean areAllies(int one, int two) {
            return one != two && group[one] != 0 && group[one] == group[two];
        }

        boolean isCode(int code) {
            int codes = 1;
            for (int region = 0; region < regions; region++) {
                codes *= Bundle.BASE;
            }
            return code >= 0 && code < codes;
        }

        boolean mayOffer(int bidder, int code, int amount) {
            return code != 0 && Bundle.isWithin(code, supply) && isWithinCap(code)
                    && amount >= Bundle.total(code, start) && amount <= budget[bidder];
        }

        private boolean isWithinCap(int code) {
            for (int region = 0; region < regions; region++) {
                if (Bundle.many(code, region) > cap) {
                    return false;
                }
            }
            return true;
        }
    }

    /** A run of the clock with its log; the sale has one, and another to run that log anew. */
    private static final class Clock {
        final int[] price = new int[MAX_REGIONS];
        final int[] held = new int[MAX_BIDDERS];
        final int[] wished = new int[MAX_BIDDERS];
        final int[] eligible = new int[MAX_BIDDERS];
        final int[] waivers = new int[MAX_BIDDERS];
        final int[] contradictions = new int[MAX_BIDDERS];
        final int[][] logPrice = new int[MAX_ROUNDS][MAX_REGIONS];
        final int[][] logWished = new int[MAX_ROUNDS][MAX_BIDDERS];
        final int[][] logHeld = new int[MAX_ROUNDS][MAX_BIDDERS];
        int rounds;
        private final int[] logStep = new int[MAX_ROUNDS];
        private final int[] logWaived = new int[MAX_ROUNDS];
        private int waived;

        void begin(Terms terms) {
            System.arraycopy(terms.start, 0, price, 0, MAX_REGIONS);
            System.arraycopy(terms.eligible, 0, eligible, 0, MAX_BIDDERS);
            Arrays.fill(held, 0);
            Arrays.fill(wished, 0);
            Arrays.fill(waivers, FIRST_WAIVERS);
            Arrays.fill(contradictions, 0);
            rounds = 0;
            waived = 0;
        }

        boolean mayWish(Terms terms, int bidder, int region, int many) {
            int now = wished[bidder];
            if (many <= Bundle.many(now, region)) {
                return true;
            }
            int points = Bundle.total(Bundle.replaced(now, region, many), terms.points);
            return many <= terms.supply[region] && points <= eligible[bidder]
                    && many + wishedByAllies(terms, bidder, region) <= terms.cap;
        }

        private int wishedByAllies(Terms terms, int bidder, int region) {
            int sum = 0;
            for (int other = 0; other < terms.bidders; other++) {
                if (terms.areAllies(bidder, other)) {
                    sum += Bundle.many(wished[other], region);
                }
            }
            return sum;
        }

        int greatestWish(Terms terms, int bidder, int region) {
            for (int many = MAX_BLOCKS; many > 0; many--) {
                if (mayWish(terms, bidder, region, many)) {
                    return many;
                }
            }
            return 0;
        }

        boolean hasWaived(int bidder) {
            return (waived & 1 << bidder) != 0;
        }

        void useWaiver(int bidder) {
            waivers[bidder]--;
            waived |= 1 << bidder;
        }

        /** Answers whether the clock is over. */
        boolean closeRound(Terms terms, int step) {
            if (rounds >= MAX_ROUNDS) {
                return true;
            }
            logStep[rounds] = step;
            logWaived[rounds] = waived;
            System.arraycopy(price, 0, logPrice[rounds], 0, MAX_REGIONS);
            System.arraycopy(wished, 0, logWished[rounds], 0, MAX_BIDDERS);
            if (terms.isRule) {
                undoContradictions(terms);
            }
            lowerEligible(terms);
            for (int region = 0; region < terms.regions; region++) {
                moveHeld(terms, region);
            }
            boolean isExcess = raisePrices(terms, step);
            System.arraycopy(held, 0, logHeld[rounds], 0, MAX_BIDDERS);
            System.arraycopy(held, 0, wished, 0, MAX_BIDDERS);
            waived = 0;
            rounds++;
            return !isExcess || rounds == MAX_ROUNDS;
        }

        private void undoContradictions(Terms terms) {
            for (int bidder = 0; bidder < terms.bidders; bidder++) {
                if (contradictedRound(bidder) != NONE) {
                    contradictions[bidder]++;
                    wished[bidder] = held[bidder];
                }
            }
        }

        int contradictedRound(int bidder) {
            for (int k = 0; k < rounds; k++) {
                if (Bundle.dearer(wished[bidder], logHeld[k][bidder], price, logPrice[k]) > 0) {
                    return k + 1;
                }
            }
            return NONE;
        }

        private void lowerEligible(Terms terms) {
            for (int bidder = 0; bidder < terms.bidders; bidder++) {
                int activity = Bundle.total(wished[bidder], terms.points);
                if (10 * activity < 8 * eligible[bidder] && !hasWaived(bidder)) {
                    eligible[bidder] = 10 * activity / 8;
                }
            }
        }

        private void moveHeld(Terms terms, int region) {
            for (int bidder = 0; bidder < terms.bidders; bidder++) {
                int many = Bundle.many(wished[bidder], region);
                if (many >= Bundle.many(held[bidder], region)) {
                    held[bidder] = Bundle.replaced(held[bidder], region, many);
                }
            }
            int excess = Bundle.together(held, region) - terms.supply[region];
            for (int bidder = 0; bidder < terms.bidders && excess > 0; bidder++) {
                int many = Bundle.many(held[bidder], region);
                int less = Math.min(excess, many - Bundle.many(wished[bidder], region));
                held[bidder] = Bundle.replaced(held[bidder], region, many - less);
                excess -= less;
            }
        }

        /** Answers whether there was excess anywhere. */
        private boolean raisePrices(Terms terms, int step) {
            boolean isExcess = false;
            for (int region = 0; region < terms.regions; region++) {
                if (Bundle.together(held, region) > terms.supply[region]) {
                    int more = Math.max(1, price[region] * step / 100);
                    price[region] = Math.min(MAX_PRICE, price[region] + more);
                    isExcess = true;
                }
            }
            return isExcess;
        }

        /** Runs another clock's log from its start; in one round a wish is another (in none, if it is NONE). */
        void runLog(Terms terms, Clock other, int round, int bidder, int region, int many) {
            begin(terms);
            boolean isOver = false;
            for (int k = 0; k < other.rounds && !isOver; k++) {
                System.arraycopy(other.logWished[k], 0, wished, 0, MAX_BIDDERS);
                if (k + 1 == round) {
                    wished[bidder] = Bundle.replaced(wished[bidder], region, many);
                }
                waived = other.logWaived[k];
                isOver = closeRound(terms, other.logStep[k]);
            }
        }

        int lastValue(int code) {
            return rounds > 0 ? Bundle.total(code, logPrice[rounds - 1]) : 0;
        }

        int allPrices() {
            int sum = 0;
            for (int region = 0; region < MAX_REGIONS; region++) {
                sum += price[region];
            }
            return sum;
        }

        int allContradictions() {
            int sum = 0;
            for (int bidder = 0; bidder < MAX_BIDDERS; bidder++) {
                sum += contradictions[bidder];
            }
            return sum;
        }
    }

    /** The packages, and who wins with which of them. */
    private static final class Market {
        final int[] counts = new int[MAX_BIDDERS];
        final int[][] codes = new int[MAX_BIDDERS][MAX_PACKAGES];
        final int[][] amounts = new int[MAX_BIDDERS][MAX_PACKAGES];
        final int[] winner = new int[MAX_BIDDERS];
        final int[] worths = new int[SETS];
        private int out;
        /** The greatest sum with a package of just each one in the set; NONE, if they don't fit together. */
        private final int[] best = new int[SETS];
        private final int[][] bestPicks = new int[SETS][MAX_BIDDERS];
        private final int[] picks = new int[MAX_BIDDERS];
        private final int[] taken = new int[MAX_REGIONS];
        private final int[][] takenByGroup = new int[MAX_GROUP + 1][MAX_REGIONS];

        Market() {
            Arrays.fill(best, NONE);
            best[0] = 0;
            for (int set = 0; set < SETS; set++) {
                Arrays.fill(bestPicks[set], NONE);
            }
            Arrays.fill(picks, NONE);
            Arrays.fill(winner, NONE);
        }

        boolean isOut(int bidder) {
            return (out & 1 << bidder) != 0;
        }

        int winners() {
            int sum = 0;
            for (int bidder = 0; bidder < MAX_BIDDERS; bidder++) {
                if (winner[bidder] != NONE) {
                    sum++;
                }
            }
            return sum;
        }

        int amountWon(int bidder) {
            int nth = winner[bidder];
            return nth >= 0 && nth < MAX_PACKAGES ? amounts[bidder][nth] : 0;
        }

        int blocksWon(int bidder, int region) {
            int nth = winner[bidder];
            return nth >= 0 && nth < MAX_PACKAGES ? Bundle.many(codes[bidder][nth], region) : 0;
        }

        /** Only choices with the new package are looked at: the best of all others are kept already. */
        void add(Terms terms, int bidder, int code, int amount) {
            int nth = counts[bidder];
            if (nth >= MAX_PACKAGES) {
                return;
            }
            codes[bidder][nth] = code;
            amounts[bidder][nth] = amount;
            counts[bidder]++;
            if (fits(terms, bidder, code)) {
                take(terms, bidder, nth);
                pickFrom(this, terms, 0, bidder, 1 << bidder, amount);
                giveBack(terms, bidder, nth);
            }
            findWinners();
        }

        void leaveOut(int bidder) {
            out |= 1 << bidder;
            findWinners();
        }

        private static void pickFrom(Market market, Terms terms, int next, int fixed, int set, int sum) {
            if (next >= terms.bidders || next >= MAX_BIDDERS) {
                market.keepIfBetter(set, sum);
                return;
            }
            pickFrom(market, terms, next + 1, fixed, set, sum);
            if (next == fixed) {
                return;
            }
            for (int nth = 0; nth < market.counts[next]; nth++) {
                if (market.fits(terms, next, market.codes[next][nth])) {
                    market.take(terms, next, nth);
                    pickFrom(market, terms, next + 1, fixed, set | 1 << next, sum + market.amounts[next][nth]);
                    market.giveBack(terms, next, nth);
                }
            }
        }

        private boolean fits(Terms terms, int bidder, int code) {
            int[] takenByAllies = takenByGroup[terms.group[bidder]];
            int rest = code;
            for (int region = 0; region < terms.regions; region++) {
                int many = rest % Bundle.BASE;
                rest /= Bundle.BASE;
                if (many > terms.supply[region] - taken[region]
                        || terms.group[bidder] != 0 && many > terms.cap - takenByAllies[region]) {
                    return false;
                }
            }
            return true;
        }

        private void take(Terms terms, int bidder, int nth) {
            picks[bidder] = nth;
            moveTaken(terms, bidder, codes[bidder][nth], 1);
        }

        private void giveBack(Terms terms, int bidder, int nth) {
            picks[bidder] = NONE;
            moveTaken(terms, bidder, codes[bidder][nth], -1);
        }

        private void moveTaken(Terms terms, int bidder, int code, int sign) {
            int[] takenByAllies = takenByGroup[terms.group[bidder]];
            int rest = code;
            for (int region = 0; region < terms.regions; region++) {
                int many = rest % Bundle.BASE * sign;
                rest /= Bundle.BASE;
                taken[region] += many;
                takenByAllies[region] += many;
            }
        }

        private void keepIfBetter(int set, int sum) {
            if (sum > best[set] || sum == best[set] && isAhead(picks, bestPicks[set])) {
                best[set] = sum;
                System.arraycopy(picks, 0, bestPicks[set], 0, MAX_BIDDERS);
            }
        }

        /** NONE is below every number of a package, so it comes ahead of these. */
        private static boolean isAhead(int[] one, int[] two) {
            for (int bidder = 0; bidder < MAX_BIDDERS; bidder++) {
                if (one[bidder] != two[bidder]) {
                    return one[bidder] < two[bidder];
                }
            }
            return false;
        }

        private void findWinners() {
            int first = 0;
            for (int set = 0; set < SETS; set++) {
                worths[set] = worthOf(set);
                boolean isIn = (set & out) == 0 && best[set] != NONE;
                if (isIn && (best[set] > best[first]
                        || best[set] == best[first] && isAhead(bestPicks[set], bestPicks[first]))) {
                    first = set;
                }
            }
            System.arraycopy(bestPicks[first], 0, winner, 0, MAX_BIDDERS);
        }

        /** Smaller sets must have theirs already. */
        private int worthOf(int set) {
            int greatest = (set & out) == 0 ? Math.max(0, best[set]) : 0;
            for (int bidder = 0; bidder < MAX_BIDDERS; bidder++) {
                if ((set & 1 << bidder) != 0) {
                    greatest = Math.max(greatest, worths[set - (1 << bidder)]);
                }
            }
            return greatest;
        }

        int signals(Terms terms) {
            int sum = 0;
            for (int bidder = 0; bidder < terms.bidders; bidder++) {
                for (int nth = 1; nth < counts[bidder]; nth++) {
                    if (isSignal(terms, bidder, nth)) {
                        sum++;
                    }
                }
            }
            return sum;
        }

        private boolean isSignal(Terms terms, int bidder, int nth) {
            int region = amounts[bidder][nth] % 10;
            if (region >= terms.regions || Bundle.many(codes[bidder][nth], region) != 0) {
                return false;
            }
            for (int other = 0; other < terms.bidders; other++) {
                if (terms.areAllies(bidder, other) && asksFor(other, region)) {
                    return true;
                }
            }
            return false;
        }

        private boolean asksFor(int bidder, int region) {
            for (int nth = 0; nth < counts[bidder]; nth++) {
                if (Bundle.many(codes[bidder][nth], region) > 0) {
                    return true;
                }
            }
            return false;
        }
    }

    /** What winners pay by each way. */
    private static final class Payments {
        final int[][] rows = new int[WAYS][MAX_BIDDERS];

        void find(Market market) {
            for (int bidder = 0; bidder < MAX_BIDDERS; bidder++) {
                int harm = harmOf(market, bidder);
                rows[FULL][bidder] = market.amountWon(bidder);
                rows[HARM][bidder] = harm;
                rows[CORE][bidder] = harm;
            }
            // Payments only rise, so a set that was answered once never objects again.
            for (int pass = 0; pass < SETS; pass++) {
                int set = strongest(market);
                if (set == NONE) {
                    return;
                }
                raiseOutside(set, objection(market, set, CORE));
            }
        }

        private static int harmOf(Market market, int bidder) {
            if (market.winner[bidder] == NONE) {
                return 0;
            }
            int ofOthers = market.worths[ALL] - market.amountWon(bidder);
            return market.worths[ALL - (1 << bidder)] - ofOthers;
        }

        int objection(Market market, int set, int way) {
            int sum = market.worths[set];
            for (int bidder = 0; bidder < MAX_BIDDERS; bidder++) {
                boolean isInside = (set & 1 << bidder) != 0;
                sum -= isInside ? rows[FULL][bidder] : rows[way][bidder];
            }
            return sum;
        }

        private int strongest(Market market) {
            int found = NONE;
            int greatest = 0;
            for (int set = 0; set < SETS; set++) {
                int objection = objection(market, set, CORE);
                if (objection > greatest) {
                    found = set;
                    greatest = objection;
                }
            }
            return found;
        }

        /** Goes many turns of 1 more at once, as many as leave nobody out on the way. */
        private void raiseOutside(int set, int missing) {
            int left = missing;
            for (int pass = 0; pass <= MAX_BIDDERS; pass++) {
                int paying = 0;
                int turns = left;
                for (int bidder = 0; bidder < MAX_BIDDERS; bidder++) {
                    int room = roomOutside(set, bidder);
                    if (room > 0) {
                        paying++;
                        turns = Math.min(turns, room);
                    }
                }
                if (paying == 0 || left < paying) {
                    break;
                }
                left -= raiseEach(set, Math.min(turns, left / paying), left);
            }
            raiseEach(set, 1, left);
        }

        /** Answers how much more is paid by all, which is never above the limit. */
        private int raiseEach(int set, int more, int limit) {
            int sum = 0;
            for (int bidder = 0; bidder < MAX_BIDDERS; bidder++) {
                if (sum + more <= limit && roomOutside(set, bidder) >= more) {
                    rows[CORE][bidder] += more;
                    sum += more;
                }
            }
            return sum;
        }

        private int roomOutside(int set, int bidder) {
            return (set & 1 << bidder) != 0 ? 0 : rows[FULL][bidder] - rows[CORE][bidder];
        }
    }

    /** Which block is whose. */
    private static final class Names {
        final int[][] holders = new int[MAX_REGIONS][MAX_BLOCKS];
        int clashes;

        Names() {
            for (int region = 0; region < MAX_REGIONS; region++) {
                Arrays.fill(holders[region], NONE);
            }
        }

        void give(Terms terms, Market market) {
            clashes = 0;
            for (int region = 0; region < terms.regions; region++) {
                int bestTurn = 0;
                // More than there can be, so that the first turn is taken at first.
                int fewest = MAX_REGIONS * MAX_BLOCKS;
                for (int turn = 0; turn < MAX_BIDDERS; turn++) {
                    giveByTurn(terms, market, region, turn);
                    int found = clashesOf(terms, region);
                    if (found < fewest) {
                        fewest = found;
                        bestTurn = turn;
                    }
                }
                giveByTurn(terms, market, region, bestTurn);
                clashes += fewest;
            }
        }

        private void giveByTurn(Terms terms, Market market, int region, int turn) {
            int[] row = holders[region];
            Arrays.fill(row, NONE);
            int next = 0;
            for (int k = 0; k < MAX_BIDDERS; k++) {
                int bidder = (turn + k) % MAX_BIDDERS;
                int end = Math.min(next + market.blocksWon(bidder, region), terms.supply[region]);
                for (int block = next; block < end; block++) {
                    row[block] = bidder;
                }
                next = end;
            }
        }

        private int clashesOf(Terms terms, int region) {
            int sum = 0;
            for (int other = 0; other < region; other++) {
                if (terms.areNeighbours(region, other)) {
                    sum += clashesBetween(holders[region], holders[other]);
                }
            }
            return sum;
        }

        private static int clashesBetween(int[] one, int[] two) {
            int sum = 0;
            for (int block = 0; block < MAX_BLOCKS; block++) {
                if (one[block] != NONE && two[block] != NONE && one[block] != two[block]) {
                    sum++;
                }
            }
            return sum;
        }

        void draw(Terms terms, int region, StringBuilder signs) {
            for (int block = 0; block < terms.supply[region]; block++) {
                if (block > 0) {
                    signs.append(',');
                }
                int bidder = holders[region][block];
                if (bidder == NONE) {
                    signs.append('-');
                } else {
                    signs.append(bidder);
                }
            }
        }

        boolean agreeWith(Terms terms, Market market) {
            for (int region = 0; region < terms.regions; region++) {
                int all = 0;
                for (int bidder = 0; bidder < terms.bidders; bidder++) {
                    int many = heldBy(bidder, region);
                    if (many != market.blocksWon(bidder, region)) {
                        return false;
                    }
                    all += many;
                }
                if (all > terms.supply[region]) {
                    return false;
                }
            }
            return true;
        }

        private int heldBy(int bidder, int region) {
            int sum = 0;
            for (int block = 0; block < MAX_BLOCKS; block++) {
                if (holders[region][block] == bidder) {
                    sum++;
                }
            }
            return sum;
        }
    }

    /** The old stations, and how they go into channels. */
    private static final class Stations {
        final int[] asks = new int[MAX_STATIONS];
        int count;
        private final int[] regions = new int[MAX_STATIONS];
        private final int[] disturbed = new int[MAX_STATIONS];
        private final int[] inChannel = new int[MAX_CHANNELS];

        int add(int region, int ask) {
            int number = count;
            if (number < MAX_STATIONS) {
                regions[number] = region;
                asks[number] = ask;
                count++;
            }
            return number;
        }

        int countIn(int region) {
            int sum = 0;
            for (int station = 0; station < count; station++) {
                if (regions[station] == region) {
                    sum++;
                }
            }
            return sum;
        }

        /** Answers whether the set can be packed; then each of it is in its channel. */
        boolean pack(Terms terms, int set, int channels) {
            findDisturbed(terms);
            return packAgain(set, channels);
        }

        int channelOf(int station) {
            for (int channel = 0; channel < MAX_CHANNELS; channel++) {
                if ((inChannel[channel] & 1 << station) != 0) {
                    return channel;
                }
            }
            return NONE;
        }

        int cheapest(Terms terms, int channels) {
            findDisturbed(terms);
            int all = (1 << count) - 1;
            int found = all;
            int least = asksOf(all);
            for (int set = 0; set < all; set++) {
                int sum = asksOf(set);
                if (sum < least && packAgain(all - set, channels)) {
                    found = set;
                    least = sum;
                }
            }
            return found;
        }

        private int asksOf(int set) {
            int sum = 0;
            for (int station = 0; station < count; station++) {
                if ((set & 1 << station) != 0) {
                    sum += asks[station];
                }
            }
            return sum;
        }

        private void findDisturbed(Terms terms) {
            for (int one = 0; one < count; one++) {
                disturbed[one] = 0;
                for (int two = 0; two < count; two++) {
                    boolean isNear = regions[one] == regions[two]
                            || terms.areNeighbours(regions[one], regions[two]);
                    if (one != two && isNear) {
                        disturbed[one] |= 1 << two;
                    }
                }
            }
        }

        private boolean packAgain(int set, int channels) {
            Arrays.fill(inChannel, 0);
            return packFrom(this, 0, set, channels, 0);
        }

        /** Of channels that are empty still only the first is tried: the others are no different. */
        private static boolean packFrom(Stations all, int station, int set, int channels, int used) {
            if (station >= all.count || station >= MAX_STATIONS) {
                return true;
            }
            int bit = 1 << station;
            if ((set & bit) == 0) {
                return packFrom(all, station + 1, set, channels, used);
            }
            for (int channel = 0; channel <= used && channel < channels; channel++) {
                if ((all.inChannel[channel] & all.disturbed[station]) == 0) {
                    all.inChannel[channel] |= bit;
                    if (packFrom(all, station + 1, set, channels, Math.max(used, channel + 1))) {
                        return true;
                    }
                    all.inChannel[channel] -= bit;
                }
            }
            return false;
        }
    }
}
