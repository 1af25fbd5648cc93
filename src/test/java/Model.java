import java.util.ArrayList;
import java.util.HashMap;
import java.util.List;
import java.util.Map;

/**
 * The document once more, as literally and as slowly as it can be said: RunsTest compares the program with it.
 * It shares nothing with the program, so that a slip in one of them shows.
 */
public final class Model {
    private static final class Region {
        int supply;
        int points;
        int start;
        int price;
        int[] names;
    }

    private static final class Offer {
        int[] bundle;
        int amount;
    }

    private static final class Bidder {
        int budget;
        int eligibleAtFirst;
        int eligible;
        int credit;
        int group;
        int waivers = 2;
        boolean waived;
        int contradictions;
        boolean out;
        int[] holds = new int[5];
        int[] wishes = new int[5];
        List<Offer> offers = new ArrayList<>();
        int won = -1;
        int payment;
    }

    private static final class Round {
        int step;
        int[] prices;
        int[][] wished;
        boolean[] waived;
        int[][] held;
    }

    private final List<Region> regions = new ArrayList<>();
    private final List<Bidder> bidders = new ArrayList<>();
    private final List<int[]> pairs = new ArrayList<>();
    private final List<int[]> stations = new ArrayList<>();
    private List<Round> log = new ArrayList<>();
    private final Map<Integer, Integer> worths = new HashMap<>();
    private final Map<Integer, int[]> payments = new HashMap<>();
    private int[] winners;
    private int stage = 0;
    private int cap = 5;
    private boolean rule = true;
    private int step = 10;
    private int way;
    private int deposits;
    private int refused;

    public int region(int supply, int points, int price) {
        if (supply < 1 || supply > 5 || points < 1 || points > 9 || price < 1 || price > 999) {
            throw new IllegalArgumentException();
        }
        if (stage != 0 || regions.size() == 5) {
            throw new IllegalStateException();
        }
        Region r = new Region();
        r.supply = supply;
        r.points = points;
        r.start = price;
        r.price = price;
        r.names = new int[supply];
        java.util.Arrays.fill(r.names, -1);
        regions.add(r);
        return regions.size() - 1;
    }

    public int border(int one, int two) {
        checkRegion(one);
        checkRegion(two);
        if (one == two) {
            throw new IllegalArgumentException();
        }
        if (stage != 0) {
            throw new IllegalStateException();
        }
        if (!near(one, two)) {
            pairs.add(new int[] {one, two});
        }
        return pairs.size();
    }

    public int bidder(int budget, int eligible, int credit, int group) {
        if (budget < 0 || budget > 99999 || eligible < 1 || eligible > 200 || credit < 0 || credit > 30
                || group < 0 || group > 3) {
            throw new IllegalArgumentException();
        }
        if (stage != 0 || bidders.size() == 6) {
            throw new IllegalStateException();
        }
        Bidder b = new Bidder();
        b.budget = budget;
        b.eligible = eligible;
        b.eligibleAtFirst = eligible;
        b.credit = credit;
        b.group = group;
        bidders.add(b);
        return bidders.size() - 1;
    }

    public int rules(int cap, boolean isRule) {
        if (cap < 1 || cap > 5) {
            throw new IllegalArgumentException();
        }
        if (stage != 0) {
            throw new IllegalStateException();
        }
        int before = this.cap;
        this.cap = cap;
        rule = isRule;
        return before;
    }

    public int step(int step) {
        if (step < 1 || step > 20) {
            throw new IllegalArgumentException();
        }
        if (stage >= 2) {
            throw new IllegalStateException();
        }
        int before = this.step;
        this.step = step;
        return before;
    }

    public int open() {
        if (stage != 0 || regions.isEmpty() || bidders.isEmpty()) {
            throw new IllegalStateException();
        }
        stage = 1;
        int sum = 0;
        for (Region r : regions) {
            sum += r.start;
        }
        return sum;
    }

    public int wish(int bidder, int region, int many) {
        checkBidder(bidder);
        checkRegion(region);
        if (many < 0 || many > 5) {
            throw new IllegalArgumentException();
        }
        if (stage != 1 || !lets(bidder, region, many)) {
            throw new IllegalStateException();
        }
        bidders.get(bidder).wishes[region] = many;
        return points(bidders.get(bidder).wishes);
    }

    private boolean lets(int bidder, int region, int many) {
        Bidder b = bidders.get(bidder);
        if (many <= b.wishes[region]) {
            return true;
        }
        if (many > regions.get(region).supply || many > cap) {
            return false;
        }
        int[] then = b.wishes.clone();
        then[region] = many;
        if (points(then) > b.eligible) {
            return false;
        }
        if (b.group != 0) {
            int ofGroup = many;
            for (Bidder other : bidders) {
                if (other != b && other.group == b.group) {
                    ofGroup += other.wishes[region];
                }
            }
            if (ofGroup > cap) {
                return false;
            }
        }
        return true;
    }

    public int waive(int bidder) {
        checkBidder(bidder);
        Bidder b = bidders.get(bidder);
        if (stage != 1 || b.waivers == 0 || b.waived) {
            throw new IllegalStateException();
        }
        b.waived = true;
        b.waivers--;
        return b.waivers;
    }

    public int close(int rounds) {
        if (rounds < 1 || rounds > 9) {
            throw new IllegalArgumentException();
        }
        if (stage != 1) {
            throw new IllegalStateException();
        }
        for (int k = 0; k < rounds; k++) {
            if (closeOne()) {
                stage = 2;
                for (Bidder b : bidders) {
                    int value = 0;
                    int all = 0;
                    for (int r = 0; r < regions.size(); r++) {
                        value += b.holds[r] * log.get(log.size() - 1).prices[r];
                        all += b.holds[r];
                    }
                    if (all > 0) {
                        Offer o = new Offer();
                        o.bundle = b.holds.clone();
                        o.amount = value;
                        b.offers.add(o);
                    }
                }
                break;
            }
        }
        return stage;
    }

    private boolean closeOne() {
        Round now = new Round();
        now.step = step;
        now.prices = new int[regions.size()];
        for (int r = 0; r < regions.size(); r++) {
            now.prices[r] = regions.get(r).price;
        }
        now.wished = new int[bidders.size()][];
        now.waived = new boolean[bidders.size()];
        for (int k = 0; k < bidders.size(); k++) {
            now.wished[k] = bidders.get(k).wishes.clone();
            now.waived[k] = bidders.get(k).waived;
        }
        for (int k = 0; k < bidders.size(); k++) {
            Bidder b = bidders.get(k);
            if (rule && contradicted(k) != -1) {
                b.contradictions++;
                b.wishes = b.holds.clone();
            }
        }
        for (Bidder b : bidders) {
            int activity = points(b.wishes);
            if (10 * activity < 8 * b.eligible && !b.waived) {
                b.eligible = 10 * activity / 8;
            }
        }
        for (int r = 0; r < regions.size(); r++) {
            for (Bidder b : bidders) {
                if (b.wishes[r] >= b.holds[r]) {
                    b.holds[r] = b.wishes[r];
                }
            }
            for (Bidder b : bidders) {
                while (allHeld(r) > regions.get(r).supply && b.holds[r] > b.wishes[r]) {
                    b.holds[r]--;
                }
            }
        }
        boolean any = false;
        for (int r = 0; r < regions.size(); r++) {
            if (allHeld(r) - regions.get(r).supply > 0) {
                any = true;
                Region region = regions.get(r);
                int more = region.price * step / 100;
                if (more < 1) {
                    more = 1;
                }
                region.price += more;
                if (region.price > 9999) {
                    region.price = 9999;
                }
            }
        }
        now.held = new int[bidders.size()][];
        for (int k = 0; k < bidders.size(); k++) {
            Bidder b = bidders.get(k);
            now.held[k] = b.holds.clone();
            b.wishes = b.holds.clone();
            b.waived = false;
        }
        log.add(now);
        return !any || log.size() == 60;
    }

    private int contradicted(int bidder) {
        Bidder b = bidders.get(bidder);
        for (int s = 1; s <= log.size(); s++) {
            int sum = 0;
            for (int r = 0; r < regions.size(); r++) {
                sum += (regions.get(r).price - log.get(s - 1).prices[r])
                        * (b.wishes[r] - log.get(s - 1).held[bidder][r]);
            }
            if (sum > 0) {
                return s;
            }
        }
        return -1;
    }

    public int offer(int bidder, int code, int amount) {
        checkBidder(bidder);
        int limit = (int) Math.round(Math.pow(6, regions.size()));
        if (code < 0 || code >= limit || amount < 0) {
            throw new IllegalArgumentException();
        }
        Bidder b = bidders.get(bidder);
        int[] bundle = bundle(code);
        int least = 0;
        boolean fine = stage == 2 && b.offers.size() < 6 && code > 0;
        for (int r = 0; r < regions.size(); r++) {
            fine &= bundle[r] <= regions.get(r).supply && bundle[r] <= cap;
            least += bundle[r] * regions.get(r).start;
        }
        if (!fine || amount < least || amount > b.budget) {
            throw new IllegalStateException();
        }
        Offer o = new Offer();
        o.bundle = bundle;
        o.amount = amount;
        b.offers.add(o);
        forget();
        return b.offers.size() - 1;
    }

    public int settle(int way) {
        if (way < 0 || way > 2) {
            throw new IllegalArgumentException();
        }
        if (stage != 2) {
            throw new IllegalStateException();
        }
        stage = 3;
        this.way = way;
        keep();
        return countWinners();
    }

    private void keep() {
        int[] choice = winnersNow();
        int[] row = paymentsBy(way);
        for (int k = 0; k < bidders.size(); k++) {
            bidders.get(k).won = choice[k];
            bidders.get(k).payment = row[k];
        }
        for (int r = 0; r < regions.size(); r++) {
            int fewest = -1;
            int[] best = null;
            for (int turn = 0; turn <= 5; turn++) {
                int[] row2 = namesBy(r, turn);
                int found = clashes(r, row2);
                if (best == null || found < fewest) {
                    fewest = found;
                    best = row2;
                }
            }
            regions.get(r).names = best;
        }
    }

    private int[] namesBy(int region, int turn) {
        List<Integer> order = new ArrayList<>();
        for (int k = 0; k < bidders.size(); k++) {
            order.add(k);
        }
        order.sort((a, b) -> Integer.compare((a + 6 - turn) % 6, (b + 6 - turn) % 6));
        int[] row = new int[regions.get(region).supply];
        java.util.Arrays.fill(row, -1);
        int at = 0;
        for (int k : order) {
            Bidder b = bidders.get(k);
            if (b.won >= 0) {
                for (int n = 0; n < b.offers.get(b.won).bundle[region]; n++) {
                    row[at++] = k;
                }
            }
        }
        return row;
    }

    private int clashes(int region, int[] row) {
        int sum = 0;
        for (int other = 0; other < region; other++) {
            if (near(region, other)) {
                int[] names = regions.get(other).names;
                for (int n = 0; n < row.length && n < names.length; n++) {
                    if (row[n] >= 0 && names[n] >= 0 && row[n] != names[n]) {
                        sum++;
                    }
                }
            }
        }
        return sum;
    }

    public int fail(int bidder) {
        checkBidder(bidder);
        Bidder b = bidders.get(bidder);
        if (stage != 3 || b.won < 0) {
            throw new IllegalStateException();
        }
        int deposit = b.offers.get(b.won).amount / 10;
        deposits += deposit;
        b.out = true;
        forget();
        keep();
        return deposit;
    }

    private void forget() {
        worths.clear();
        payments.clear();
        winners = null;
    }

    public int station(int region, int ask) {
        checkRegion(region);
        if (ask < 1 || ask > 9999) {
            throw new IllegalArgumentException();
        }
        if (stations.size() == 10) {
            throw new IllegalStateException();
        }
        stations.add(new int[] {region, ask});
        return stations.size() - 1;
    }

    public int ask(int station, int ask) {
        checkStation(station);
        if (ask < 1 || ask > 9999) {
            throw new IllegalArgumentException();
        }
        int before = stations.get(station)[1];
        stations.get(station)[1] = ask;
        return before;
    }

    public boolean packs(int set, int channels) {
        checkSet(set, stations.size());
        checkChannels(channels);
        return packing(set, channels) != null;
    }

    public int channel(int set, int channels, int station) {
        checkStation(station);
        checkSet(set, stations.size());
        checkChannels(channels);
        int[] found = packing(set, channels);
        return found == null ? -1 : found[station];
    }

    /** Station by station the smallest channel with which the rest can be packed still. */
    private int[] packing(int set, int channels) {
        int[] row = new int[stations.size()];
        java.util.Arrays.fill(row, -1);
        if (!canFinish(set, channels, row, 0)) {
            return null;
        }
        for (int s = 0; s < stations.size(); s++) {
            if ((set >> s & 1) == 1) {
                for (int c = 0; c < channels; c++) {
                    row[s] = c;
                    if (quiet(row, s) && canFinish(set, channels, row.clone(), s + 1)) {
                        break;
                    }
                }
            }
        }
        return row;
    }

    private boolean canFinish(int set, int channels, int[] row, int from) {
        if (from == stations.size()) {
            return true;
        }
        if ((set >> from & 1) == 0) {
            return canFinish(set, channels, row, from + 1);
        }
        for (int c = 0; c < channels; c++) {
            row[from] = c;
            if (quiet(row, from) && canFinish(set, channels, row, from + 1)) {
                row[from] = -1;
                return true;
            }
        }
        row[from] = -1;
        return false;
    }

    private boolean quiet(int[] row, int station) {
        for (int s = 0; s < station; s++) {
            int one = stations.get(s)[0];
            int two = stations.get(station)[0];
            if (row[s] == row[station] && (one == two || near(one, two))) {
                return false;
            }
        }
        return true;
    }

    public int clear(int channels) {
        checkChannels(channels);
        int best = -1;
        int least = 0;
        for (int set = 0; set < 1 << stations.size(); set++) {
            int sum = 0;
            for (int s = 0; s < stations.size(); s++) {
                if ((set >> s & 1) == 1) {
                    sum += stations.get(s)[1];
                }
            }
            if ((best == -1 || sum < least)
                    && packing((1 << stations.size()) - 1 - set, channels) != null) {
                best = set;
                least = sum;
            }
        }
        return best;
    }

    public int ofRegion(int region, int what) {
        checkRegion(region);
        Region r = regions.get(region);
        int held = allHeld(region);
        int wished = 0;
        for (Bidder b : bidders) {
            wished += stage >= 2 ? b.holds[region] : b.wishes[region];
        }
        int around = 0;
        for (int other = 0; other < regions.size(); other++) {
            if (near(region, other)) {
                around += 1 << other;
            }
        }
        int count = 0;
        for (int[] s : stations) {
            count += s[0] == region ? 1 : 0;
        }
        int[] facts = {r.supply, r.points, r.start, r.price, held, held - r.supply, wished, around, count};
        if (what < 0 || what >= facts.length) {
            throw new IllegalArgumentException();
        }
        return facts[what];
    }

    public int ofBidder(int bidder, int what) {
        checkBidder(bidder);
        Bidder b = bidders.get(bidder);
        int[] wishes = stage >= 2 ? b.holds : b.wishes;
        int[] facts = {b.budget, b.eligible, b.credit, b.group, b.waivers, code(b.holds), code(wishes),
            points(wishes), b.offers.size(), b.out ? 1 : 0, b.contradictions};
        if (what < 0 || what >= facts.length) {
            throw new IllegalArgumentException();
        }
        return facts[what];
    }

    public int wants(int bidder, int region, boolean isHeld) {
        checkBidder(bidder);
        checkRegion(region);
        Bidder b = bidders.get(bidder);
        return isHeld || stage >= 2 ? b.holds[region] : b.wishes[region];
    }

    public int priceIn(int round, int region) {
        checkRound(round);
        checkRegion(region);
        return log.get(round - 1).prices[region];
    }

    public int codeIn(int round, int bidder, boolean isHeld) {
        checkRound(round);
        checkBidder(bidder);
        Round r = log.get(round - 1);
        return code(isHeld ? r.held[bidder] : r.wished[bidder]);
    }

    public int ofPackage(int bidder, int nth, boolean isAmount) {
        checkBidder(bidder);
        List<Offer> offers = bidders.get(bidder).offers;
        if (nth < 0 || nth >= offers.size()) {
            throw new IndexOutOfBoundsException();
        }
        return isAmount ? offers.get(nth).amount : code(offers.get(nth).bundle);
    }

    public int wins(int bidder) {
        checkBidder(bidder);
        return stage == 3 ? bidders.get(bidder).won : stage == 2 ? winnersNow()[bidder] : -1;
    }

    public int pays(int bidder, boolean isDue) {
        checkBidder(bidder);
        Bidder b = bidders.get(bidder);
        if (stage != 3 || b.won < 0) {
            return 0;
        }
        return isDue ? b.payment * (100 - b.credit) / 100 : b.payment;
    }

    public int holder(int region, int block) {
        checkRegion(region);
        if (block < 0 || block >= regions.get(region).supply) {
            throw new IndexOutOfBoundsException();
        }
        return regions.get(region).names[block];
    }

    public String chart(int region) {
        checkRegion(region);
        String signs = "";
        for (int name : regions.get(region).names) {
            signs += (signs.isEmpty() ? "" : ",") + (name < 0 ? "-" : "" + name);
        }
        return signs;
    }

    public int sale(int what) {
        if (what < 0 || what > 16) {
            throw new IllegalArgumentException();
        }
        int contradictions = 0;
        int due = 0;
        for (int k = 0; k < bidders.size(); k++) {
            contradictions += bidders.get(k).contradictions;
            due += pays(k, true);
        }
        int clashes = 0;
        for (int r = 0; r < regions.size() && stage == 3; r++) {
            clashes += clashes(r, regions.get(r).names);
        }
        int round = stage == 0 ? 0 : stage == 1 ? log.size() + 1 : log.size();
        int[] facts = {stage, round, regions.size(), bidders.size(), stations.size(), cap, rule ? 1 : 0, step,
            contradictions, stage < 2 ? 0 : countWinners(), stage < 2 ? 0 : worthOf((1 << bidders.size()) - 1),
            due, deposits, clashes, signals(), log.size(), refused};
        return facts[what];
    }

    private int countWinners() {
        int sum = 0;
        for (int won : winnersNow()) {
            sum += won >= 0 ? 1 : 0;
        }
        return sum;
    }

    private int signals() {
        int sum = 0;
        for (Bidder b : bidders) {
            for (int nth = 1; nth < b.offers.size(); nth++) {
                int digit = b.offers.get(nth).amount % 10;
                boolean hit = false;
                if (digit < regions.size() && b.offers.get(nth).bundle[digit] == 0) {
                    for (Bidder other : bidders) {
                        if (other != b && other.group == b.group && b.group != 0) {
                            for (Offer o : other.offers) {
                                hit |= o.bundle[digit] > 0;
                            }
                        }
                    }
                }
                sum += hit ? 1 : 0;
            }
        }
        return sum;
    }

    public int worth(int set) {
        checkSet(set, bidders.size());
        return stage < 2 ? 0 : worthOf(set);
    }

    public int wouldPay(int bidder, int way) {
        checkBidder(bidder);
        checkWay(way);
        return stage < 2 ? 0 : paymentsBy(way)[bidder];
    }

    public int objects(int set, int way) {
        checkSet(set, bidders.size());
        checkWay(way);
        return stage < 2 ? 0 : Math.max(0, objection(set, paymentsBy(way)));
    }

    public int most(int bidder, int region) {
        checkBidder(bidder);
        checkRegion(region);
        if (stage != 1) {
            return -1;
        }
        int best = 0;
        for (int many = 0; many <= 5; many++) {
            if (lets(bidder, region, many)) {
                best = many;
            }
        }
        return best;
    }

    public int contradicts(int bidder) {
        checkBidder(bidder);
        return stage == 1 ? contradicted(bidder) : -1;
    }

    public int anew(int round, int bidder, int region, int many) {
        checkRound(round);
        checkBidder(bidder);
        checkRegion(region);
        if (many < 0 || many > 5) {
            throw new IllegalArgumentException();
        }
        int sum = 0;
        for (Region r : runAnew(round, bidder, region, many).regions) {
            sum += r.price;
        }
        return sum;
    }

    private Model runAnew(int round, int bidder, int region, int many) {
        Model other = new Model();
        for (Region r : regions) {
            other.region(r.supply, r.points, r.start);
        }
        for (Bidder b : bidders) {
            other.bidder(b.budget, b.eligibleAtFirst, b.credit, b.group);
        }
        other.rules(cap, rule);
        boolean over = false;
        for (int k = 0; k < log.size() && !over; k++) {
            Round r = log.get(k);
            other.step = r.step;
            for (int n = 0; n < bidders.size(); n++) {
                other.bidders.get(n).wishes = r.wished[n].clone();
                other.bidders.get(n).waived = r.waived[n];
            }
            if (k + 1 == round) {
                other.bidders.get(bidder).wishes[region] = many;
            }
            over = other.closeOne();
        }
        return other;
    }

    public int knock() {
        return ++refused;
    }

    public boolean isSound() {
        Model other = runAnew(-1, 0, 0, 0);
        for (int r = 0; r < regions.size(); r++) {
            Region region = regions.get(r);
            if (region.price < region.start || other.regions.get(r).price != region.price) {
                return false;
            }
            for (int k = 0; k < bidders.size(); k++) {
                if (bidders.get(k).holds[r] > region.supply
                        || other.bidders.get(k).holds[r] != bidders.get(k).holds[r]) {
                    return false;
                }
                int named = 0;
                for (int name : region.names) {
                    named += name == k ? 1 : 0;
                }
                Bidder b = bidders.get(k);
                if (stage == 3 && named != (b.won < 0 ? 0 : b.offers.get(b.won).bundle[r])) {
                    return false;
                }
            }
        }
        for (Bidder b : bidders) {
            if (b.eligible < 0 || stage == 3 && b.won >= 0 && b.payment > b.offers.get(b.won).amount) {
                return false;
            }
        }
        return true;
    }

    public long digest() {
        List<Integer> values = new ArrayList<>();
        for (int what = 0; what <= 16; what++) {
            values.add(sale(what));
        }
        for (int r = 0; r < regions.size(); r++) {
            for (int what = 0; what <= 8; what++) {
                values.add(ofRegion(r, what));
            }
            values.add(chart(r).length());
            for (int block = 0; block < regions.get(r).supply; block++) {
                values.add(holder(r, block));
            }
        }
        for (int k = 0; k < bidders.size(); k++) {
            for (int what = 0; what <= 10; what++) {
                values.add(ofBidder(k, what));
            }
            values.add(wins(k));
            values.add(pays(k, false));
            values.add(pays(k, true));
            values.add(wouldPay(k, 1));
            values.add(wouldPay(k, 2));
            for (int nth = 0; nth < bidders.get(k).offers.size(); nth++) {
                values.add(ofPackage(k, nth, true));
                values.add(ofPackage(k, nth, false));
            }
        }
        if (!log.isEmpty()) {
            for (int r = 0; r < regions.size(); r++) {
                values.add(priceIn(log.size(), r));
            }
            for (int k = 0; k < bidders.size(); k++) {
                values.add(codeIn(log.size(), k, false));
            }
        }
        if (!stations.isEmpty()) {
            values.add(clear(1));
            values.add(clear(2));
        }
        values.add(isSound() ? 1 : 0);
        long d = 58282;
        for (int v : values) {
            d = d * 31 + v;
        }
        return d;
    }

    // ---- winners and payments

    private int[] winnersNow() {
        if (winners == null) {
            winners = choose((1 << bidders.size()) - 1);
        }
        return winners;
    }

    private int worthOf(int set) {
        if (!worths.containsKey(set)) {
            worths.put(set, sumOf(choose(set)));
        }
        return worths.get(set);
    }

    /** All choices in the order in which the document prefers them, so that the first of the greatest stays. */
    private int[] choose(int set) {
        int[] choice = new int[bidders.size()];
        java.util.Arrays.fill(choice, -1);
        int[] best = choice.clone();
        while (true) {
            if (isPossible(set, choice) && sumOf(choice) > sumOf(best)) {
                best = choice.clone();
            }
            int k = bidders.size() - 1;
            while (k >= 0 && ((set >> k & 1) == 0 || choice[k] == bidders.get(k).offers.size() - 1)) {
                choice[k--] = -1;
            }
            if (k < 0) {
                return best;
            }
            choice[k]++;
        }
    }

    private int sumOf(int[] choice) {
        int sum = 0;
        for (int k = 0; k < choice.length; k++) {
            sum += choice[k] < 0 ? 0 : bidders.get(k).offers.get(choice[k]).amount;
        }
        return sum;
    }

    private boolean isPossible(int set, int[] choice) {
        int[] all = new int[5];
        int[][] ofGroup = new int[4][5];
        for (int k = 0; k < choice.length; k++) {
            if (choice[k] >= 0) {
                Bidder b = bidders.get(k);
                if ((set >> k & 1) == 0 || b.out) {
                    return false;
                }
                for (int r = 0; r < regions.size(); r++) {
                    int many = b.offers.get(choice[k]).bundle[r];
                    all[r] += many;
                    ofGroup[b.group][r] += many;
                    if (all[r] > regions.get(r).supply || b.group > 0 && ofGroup[b.group][r] > cap) {
                        return false;
                    }
                }
            }
        }
        return true;
    }

    private int amountOf(int bidder) {
        int won = winnersNow()[bidder];
        return won < 0 ? 0 : bidders.get(bidder).offers.get(won).amount;
    }

    private int[] paymentsBy(int way) {
        if (!payments.containsKey(way)) {
            payments.put(way, findPayments(way));
        }
        return payments.get(way);
    }

    private int[] findPayments(int way) {
        int n = bidders.size();
        int everyone = (1 << n) - 1;
        int[] row = new int[n];
        for (int k = 0; k < n; k++) {
            if (winnersNow()[k] >= 0) {
                int ofOthers = 0;
                for (int o = 0; o < n; o++) {
                    ofOthers += o == k ? 0 : amountOf(o);
                }
                row[k] = way == 0 ? amountOf(k) : worthOf(everyone - (1 << k)) - ofOthers;
            }
        }
        while (way == 2) {
            int worst = -1;
            for (int set = 0; set <= everyone; set++) {
                int by = objection(set, row);
                if (by > 0 && (worst == -1 || by > objection(worst, row))) {
                    worst = set;
                }
            }
            if (worst == -1) {
                break;
            }
            int missing = objection(worst, row);
            boolean moved = true;
            while (missing > 0 && moved) {
                moved = false;
                for (int k = 0; k < n && missing > 0; k++) {
                    if ((worst >> k & 1) == 0 && winnersNow()[k] >= 0 && row[k] < amountOf(k)) {
                        row[k]++;
                        missing--;
                        moved = true;
                    }
                }
            }
        }
        return row;
    }

    private int objection(int set, int[] row) {
        int by = worthOf(set);
        for (int k = 0; k < bidders.size(); k++) {
            if (winnersNow()[k] >= 0) {
                by -= (set >> k & 1) == 1 ? amountOf(k) : row[k];
            }
        }
        return by;
    }

    // ---- helpers

    private boolean near(int one, int two) {
        for (int[] pair : pairs) {
            if (pair[0] == one && pair[1] == two || pair[0] == two && pair[1] == one) {
                return true;
            }
        }
        return false;
    }

    private int allHeld(int region) {
        int sum = 0;
        for (Bidder b : bidders) {
            sum += b.holds[region];
        }
        return sum;
    }

    private int points(int[] bundle) {
        int sum = 0;
        for (int r = 0; r < regions.size(); r++) {
            sum += bundle[r] * regions.get(r).points;
        }
        return sum;
    }

    private static int code(int[] bundle) {
        int code = 0;
        for (int r = 4; r >= 0; r--) {
            code = code * 6 + bundle[r];
        }
        return code;
    }

    private static int[] bundle(int code) {
        int[] bundle = new int[5];
        int rest = code;
        for (int r = 0; r < 5; r++) {
            bundle[r] = rest % 6;
            rest /= 6;
        }
        return bundle;
    }

    private void checkRegion(int region) {
        if (region < 0 || region >= regions.size()) {
            throw new IndexOutOfBoundsException();
        }
    }

    private void checkBidder(int bidder) {
        if (bidder < 0 || bidder >= bidders.size()) {
            throw new IndexOutOfBoundsException();
        }
    }

    private void checkStation(int station) {
        if (station < 0 || station >= stations.size()) {
            throw new IndexOutOfBoundsException();
        }
    }

    private void checkRound(int round) {
        if (round < 1 || round > log.size()) {
            throw new IndexOutOfBoundsException();
        }
    }

    private static void checkSet(int set, int count) {
        if (set < 0 || set >> count != 0) {
            throw new IllegalArgumentException();
        }
    }

    private static void checkChannels(int channels) {
        if (channels < 1 || channels > 6) {
            throw new IllegalArgumentException();
        }
    }

    private static void checkWay(int way) {
        if (way < 0 || way > 2) {
            throw new IllegalArgumentException();
        }
    }
}
