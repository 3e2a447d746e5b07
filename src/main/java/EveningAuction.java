/** The auction of evenings; ../shared/DOC.md says what each call promises. */
public final class EveningAuction {
    public static final int NONE = -1, BAD = -2, NOT = -3, FULL = -4;

    private static final int BIDDERS = 5;
    private static final int EVENINGS = 10;
    private static final int PROGRAMMES = 5;
    private static final int SHEETS = 4;
    private static final int ALL_BIDDERS = 31;
    private static final int MOST_BYTES = 100;
    private static final int MOST_BIDS = 20;
    private static final int BID_BYTES = 5;
    private static final int MOST_SEEN = 8;
    private static final int MOST_ITEMS = 60;

    private static final int STEP = 0;
    private static final int LAW = 1;
    private static final int MOST = 2;
    private static final int[] LEAST_RULE = {1, 0, 1};
    private static final int[] GREATEST_RULE = {20, 1, 10};

    private static final int BYTES = 0;
    private static final int SHORTS = 1;
    private static final int INTS = 2;

    private static final int NULL = 1;
    private static final int INDEX = 2;
    private static final int CAST = 3;
    private static final int STORE = 4;
    private static final int SIZE = 5;

    private static final int ANY_NUMBER_REFUSED = -10000;
    private static final int LEAST_INT = -2147483648;
    private static final long LEAST_LONG = -9223372036854775808L;

    /** In how many of the 120 orders a given bidder comes just behind a given set, by the size of the set. */
    private static final int[] ORDERS = {24, 6, 4, 6, 24};
    private static final int ALL_ORDERS = 120;

    private final Town town = new Town();
    private final BidText bids = new BidText();
    private final Outcome outcome = new Outcome();
    private final Outcome otherOutcome = new Outcome();
    private final OneEach oneEach = new OneEach();
    private final Clubs clubs = new Clubs();
    private final Sightings sightings = new Sightings();
    private final Sheet[] sheets = new Sheet[SHEETS];
    private int latestFinding = 0;

    /** Grows with each change of the town or the bids, so that what was worked out before is known to be old. */
    private int edition = 1;

    public EveningAuction() {
    }

    // ---- bidders, bids

    public int type(int b) {
        if (!within(b, 0, 255)) {
            return BAD;
        }
        if (bids.length >= MOST_BYTES) {
            return FULL;
        }
        bids.append(b);
        edition++;
        return bids.length;
    }

    public int wipe() {
        int had = bids.length;
        bids.length = 0;
        edition++;
        return had;
    }

    public int fault() {
        judgedOutcome();
        return bids.faultAt;
    }

    public int undo() {
        judgedOutcome();
        if (bids.number == 0) {
            return NOT;
        }
        int left = bids.number - 1;
        bids.keep(left);
        edition++;
        return left;
    }

    public int bidder(int bidder, int what, int v) {
        if (!isBidder(bidder)) {
            return BAD;
        }
        if (what == 0 && within(v, 0, 999)) {
            return replace(town.purses, bidder, v);
        }
        if (what == 1 && isProgramme(v)) {
            return replace(town.programmes, bidder, v);
        }
        return BAD;
    }

    public int value(int bidder, int evening, int v) {
        if (!isBidder(bidder) || !isEvening(evening) || !isValue(v)) {
            return BAD;
        }
        return replace(town.values[bidder], evening, v);
    }

    public int joy(int bidder, int programme, int v) {
        if (!isBidder(bidder) || !isProgramme(programme) || !within(v, 0, 9)) {
            return BAD;
        }
        return replace(town.joys[bidder], programme, v);
    }

    public int evening(int evening, int what, int v) {
        if (!isEvening(evening)) {
            return BAD;
        }
        if (what == 0 && within(v, 0, 99)) {
            return replace(town.reserves, evening, v);
        }
        if (what == 1 && within(v, 0, 16)) {
            return replace(town.clouds, evening, v);
        }
        return BAD;
    }

    public int set(int what, int v) {
        if (!within(what, STEP, MOST) || !within(v, LEAST_RULE[what], GREATEST_RULE[what])) {
            return BAD;
        }
        return replace(town.rules, what, v);
    }

    public int busy(int bidder, int evening, int v) {
        if (!isBidder(bidder) || !isEvening(evening) || !within(v, 0, 1)) {
            return BAD;
        }
        return replace(town.busyness[bidder], evening, v);
    }

    public int read(int s, int bidder) {
        if (!isSheet(s) || !isBidder(bidder)) {
            return BAD;
        }
        Sheet sheet = sheets[s];
        if (sheet == null) {
            return finding(NULL);
        }
        int readable = Math.min(sheet.items.length, EVENINGS);
        int evening = 0;
        while (evening < readable && isValue(sheet.items[evening])) {
            replace(town.values[bidder], evening, sheet.items[evening]);
            evening++;
        }
        return evening;
    }

    // ---- what comes of it

    public int holds(int bid) {
        Outcome now = judgedOutcome();
        if (!within(bid, 0, bids.number - 1)) {
            return BAD;
        }
        return now.held[bid] ? 1 : 0;
    }

    public int judged() {
        return judgedOutcome().firstNotHeld;
    }

    public int owner(int evening) {
        if (!isEvening(evening)) {
            return BAD;
        }
        return judgedOutcome().leaders[evening];
    }

    public int price(int evening) {
        if (!isEvening(evening)) {
            return BAD;
        }
        Outcome now = judgedOutcome();
        if (now.leaders[evening] == NONE) {
            return NOT;
        }
        return now.priceOf(town, evening);
    }

    public int has(int bidder, int what) {
        if (!isBidder(bidder)) {
            return BAD;
        }
        Outcome now = judgedOutcome();
        switch (what) {
            case 0:
                return now.eveningsOf(bidder);
            case 1:
                return now.bound[bidder];
            case 2:
                return town.purses[bidder] - now.pricesOf(town, bidder);
            default:
                return BAD;
        }
    }

    public int happy(int bidder) {
        if (!isBidder(bidder)) {
            return BAD;
        }
        Outcome now = judgedOutcome();
        int sum = 0;
        for (int evening = 0; evening < EVENINGS; evening++) {
            sum += town.joyBy(now.leaders[evening], bidder);
        }
        return sum;
    }

    public int wet(int bidder, int seed) {
        if (!isBidder(bidder)) {
            return BAD;
        }
        Outcome now = judgedOutcome();
        int sum = 0;
        int lots = seed;
        for (int evening = 0; evening < EVENINGS; evening++) {
            lots = 1103515245 * lots + 12345;
            boolean refused = (lots >>> 16) % 16 < town.clouds[evening];
            if (!refused) {
                sum += town.joyBy(now.leaders[evening], bidder);
            }
        }
        return sum;
    }

    public int harm(int evening) {
        if (!isEvening(evening)) {
            return BAD;
        }
        int owner = judgedOutcome().leaders[evening];
        if (!isBidder(owner)) {
            return NOT;
        }
        int most = 0;
        for (int programme = 0; programme < PROGRAMMES; programme++) {
            most = Math.max(most, town.joyOfAll(programme));
        }
        return most - town.joyOfAll(town.programmes[owner]);
    }

    public int gain(int bidder) {
        if (!isBidder(bidder)) {
            return ANY_NUMBER_REFUSED + BAD;
        }
        Outcome now = judgedOutcome();
        int sum = 0;
        for (int evening = 0; evening < EVENINGS; evening++) {
            if (now.leaders[evening] == bidder) {
                sum += town.values[bidder][evening];
            }
        }
        return sum - now.pricesOf(town, bidder);
    }

    public int without(int bid, int evening) {
        judgedOutcome();
        if (!within(bid, 0, bids.number - 1) || !isEvening(evening)) {
            return BAD;
        }
        otherOutcome.judge(town, bids, bid);
        return otherOutcome.leaders[evening];
    }

    // ---- clubs

    public int meet(int bidders, int k, int what) {
        if (!within(bidders, 1, ALL_BIDDERS) || !within(k, 1, 4) || !within(what, 0, 1)) {
            return BAD;
        }
        Outcome now = judgedOutcome();
        int cost = 0;
        int chosen = 0;
        for (int turn = 0; turn < k; turn++) {
            int evening = cheapestToMeet(now, bidders, chosen);
            if (evening == NONE) {
                return NONE;
            }
            cost += now.costToMeet(town, bidders, evening);
            chosen |= 1 << evening;
        }
        return what == 0 ? cost : chosen;
    }

    public int each(int bidder) {
        if (bidder == NONE) {
            return solvedOneEach().total;
        }
        if (!isBidder(bidder)) {
            return BAD;
        }
        return solvedOneEach().row[bidder];
    }

    public int pays(int bidder) {
        if (!isBidder(bidder)) {
            return BAD;
        }
        OneEach now = solvedOneEach();
        int othersNow = now.total - town.valueTo(bidder, now.row[bidder]);
        return now.totalWithout[bidder] - othersNow;
    }

    public int club(int bidders) {
        if (!within(bidders, 0, ALL_BIDDERS)) {
            return BAD;
        }
        return valuedClubs().worths[bidders];
    }

    public long share(int bidder, int what) {
        if (!isBidder(bidder) || !within(what, 0, 1)) {
            return LEAST_LONG - BAD;
        }
        return fraction(valuedClubs().broughtInAllOrders(bidder), ALL_ORDERS, what);
    }

    public int rather(int s) {
        if (!isSheet(s)) {
            return BAD;
        }
        Sheet sheet = sheets[s];
        if (sheet == null) {
            return finding(NULL);
        }
        if (sheet.items.length < BIDDERS) {
            return NOT;
        }
        Clubs now = valuedClubs();
        for (int set = 1; set <= ALL_BIDDERS; set++) {
            if (sheet.sumOf(set) < now.worths[set]) {
                return set;
            }
        }
        return NONE;
    }

    // ---- seen, weather, swaps

    public int seen(int evening, int programme) {
        if (!isEvening(evening) || !isProgramme(programme)) {
            return BAD;
        }
        if (sightings.number >= MOST_SEEN) {
            return FULL;
        }
        sightings.note(evening, programme);
        return sightings.number;
    }

    public int forget() {
        int had = sightings.number;
        sightings.clear();
        return had;
    }

    public int owners(int evening) {
        if (evening == NONE) {
            return sightings.ways(town);
        }
        if (!isEvening(evening)) {
            return BAD;
        }
        int programme = sightings.programmes[evening];
        if (programme == NONE || sightings.ways(town) == 0) {
            return 0;
        }
        // Bidders of one programme can change places in any way, so one is possible if another is.
        return town.biddersWith(programme);
    }

    public long worth(int bidder, int evening, int what) {
        if (!isBidder(bidder) || !isEvening(evening) || !within(what, 0, 1)) {
            return LEAST_LONG - BAD;
        }
        return fraction(town.values[bidder][evening] * (16 - town.clouds[evening]), 16, what);
    }

    public int swap(int a, int b) {
        if (!isEvening(a) || !isEvening(b) || a == b) {
            return BAD;
        }
        Outcome now = judgedOutcome();
        int ownerOfA = now.leaders[a];
        int ownerOfB = now.leaders[b];
        if (!isBidder(ownerOfA) || !isBidder(ownerOfB) || ownerOfA == ownerOfB) {
            return NOT;
        }
        int[] valuesOfA = town.values[ownerOfA];
        int[] valuesOfB = town.values[ownerOfB];
        return valuesOfA[b] > valuesOfA[a] && valuesOfB[a] > valuesOfB[b] ? 1 : 0;
    }

    // ---- sheets

    public int sheet(int s, int form, int n) {
        if (!isSheet(s) || !isForm(form) || n > MOST_ITEMS) {
            return BAD;
        }
        if (n < 0) {
            return finding(SIZE);
        }
        sheets[s] = new Sheet(form, n);
        return n;
    }

    public int lose(int s) {
        if (!isSheet(s)) {
            return BAD;
        }
        Sheet sheet = sheets[s];
        if (sheet == null) {
            return finding(NULL);
        }
        sheets[s] = null;
        return sheet.items.length;
    }

    public int lay(int s, int form, int i, int v) {
        if (!isSheet(s) || !isForm(form)) {
            return BAD;
        }
        Sheet sheet = sheets[s];
        int found = findingAt(sheet, form, i);
        if (sheet == null || found != 0) {
            return finding(found);
        }
        sheet.put(i, v);
        return 1;
    }

    public int get(int s, int form, int i) {
        if (!isSheet(s) || !isForm(form)) {
            return LEAST_INT;
        }
        Sheet sheet = sheets[s];
        int found = findingAt(sheet, form, i);
        if (sheet == null || found != 0) {
            finding(found);
            return LEAST_INT;
        }
        return sheet.items[i];
    }

    public int copy(int s, int i, int t, int j, int n) {
        if (!isSheet(s) || !isSheet(t)) {
            return BAD;
        }
        Sheet from = sheets[s];
        Sheet to = sheets[t];
        if (from == null || to == null) {
            return finding(NULL);
        }
        if (from.form != to.form) {
            return finding(STORE);
        }
        if (!from.hasItems(i, n) || !to.hasItems(j, n)) {
            return finding(INDEX);
        }
        System.arraycopy(from.items, i, to.items, j, n);
        return 1;
    }

    public int write(int s) {
        if (!isSheet(s)) {
            return BAD;
        }
        Sheet sheet = sheets[s];
        if (sheet == null) {
            return finding(NULL);
        }
        Outcome now = judgedOutcome();
        int written = Math.min(sheet.items.length, EVENINGS);
        for (int evening = 0; evening < written; evening++) {
            sheet.put(evening, now.leaders[evening]);
        }
        return written;
    }

    public int count(int what) {
        Outcome now = judgedOutcome();
        switch (what) {
            case 0:
                return bids.number;
            case 1:
                return bids.length;
            case 2:
                return now.numberHeld;
            case 3:
                return now.numberOwned();
            case 4:
                return now.allPrices(town);
            case 5:
                return sightings.number;
            case 6:
                return town.rules[STEP];
            case 7:
                return town.rules[LAW];
            case 8:
                return latestFinding;
            default:
                return BAD;
        }
    }

    public long digest() {
        long h = 17;
        for (int what = 0; what <= 7; what++) {
            h = 31 * h + count(what);
        }
        h = 31 * h + fault();
        h = 31 * h + judged();
        h = digestOfBids(h);
        h = digestOfEvenings(h);
        h = digestOfBidders(h);
        h = 31 * h + each(NONE);
        h = 31 * h + meet(3, 2, 0);
        h = 31 * h + meet(3, 2, 1);
        h = 31 * h + club(ALL_BIDDERS);
        h = 31 * h + owners(NONE);
        return 31 * h + swap(0, 1);
    }

    private long digestOfBids(long before) {
        long h = before;
        int number = count(0);
        for (int bid = 0; bid < number; bid++) {
            h = 31 * h + holds(bid);
            h = 31 * h + without(bid, 0);
        }
        return h;
    }

    private long digestOfEvenings(long before) {
        long h = before;
        for (int evening = 0; evening < EVENINGS; evening++) {
            h = 31 * h + owner(evening);
            h = 31 * h + price(evening);
            h = 31 * h + harm(evening);
            h = 31 * h + owners(evening);
            h = 31 * h + worth(1, evening, 0);
            h = 31 * h + worth(1, evening, 1);
        }
        return h;
    }

    private long digestOfBidders(long before) {
        long h = before;
        for (int bidder = 0; bidder < BIDDERS; bidder++) {
            for (int what = 0; what <= 2; what++) {
                h = 31 * h + has(bidder, what);
            }
            h = 31 * h + happy(bidder);
            h = 31 * h + wet(bidder, 7);
            h = 31 * h + gain(bidder);
            h = 31 * h + each(bidder);
            h = 31 * h + pays(bidder);
            h = 31 * h + share(bidder, 0);
            h = 31 * h + share(bidder, 1);
        }
        return h;
    }

    // ---- what may be asked

    private static boolean within(int v, int least, int greatest) {
        return v >= least && v <= greatest;
    }

    private static boolean isBidder(int bidder) {
        return within(bidder, 0, BIDDERS - 1);
    }

    private static boolean isEvening(int evening) {
        return within(evening, 0, EVENINGS - 1);
    }

    private static boolean isProgramme(int programme) {
        return within(programme, 0, PROGRAMMES - 1);
    }

    private static boolean isValue(int v) {
        return within(v, 0, 99);
    }

    private static boolean isSheet(int s) {
        return within(s, 0, SHEETS - 1);
    }

    private static boolean isForm(int form) {
        return within(form, BYTES, INTS);
    }

    // ---- changes and findings

    private int replace(int[] row, int at, int v) {
        int was = row[at];
        row[at] = v;
        edition++;
        return was;
    }

    private int finding(int number) {
        latestFinding = number;
        return -10 - number;
    }

    /** The number of the finding at an item treated as of a form; 0: it can be used. */
    private static int findingAt(Sheet sheet, int form, int i) {
        if (sheet == null) {
            return NULL;
        }
        if (sheet.form != form) {
            return CAST;
        }
        return sheet.hasItems(i, 1) ? 0 : INDEX;
    }

    // ---- what is worked out once for each edition

    /** Behind this the text of the bids has been parsed too. */
    private Outcome judgedOutcome() {
        if (outcome.edition != edition) {
            bids.parse();
            outcome.judge(town, bids, NONE);
            outcome.edition = edition;
        }
        return outcome;
    }

    private OneEach solvedOneEach() {
        if (oneEach.edition != edition) {
            oneEach.solve(town);
            oneEach.edition = edition;
        }
        return oneEach;
    }

    private Clubs valuedClubs() {
        if (clubs.edition != edition) {
            clubs.valueAll(town);
            clubs.edition = edition;
        }
        return clubs;
    }

    // ---- where a club can meet

    /**
     * Taking the cheapest evening, of like ones the first, again and again gives the least cost
     * and of like choices the least bits.
     */
    private int cheapestToMeet(Outcome now, int bidders, int chosen) {
        int cheapest = NONE;
        int least = 0;
        for (int evening = 0; evening < EVENINGS; evening++) {
            boolean possible = ((chosen >> evening) & 1) == 0 && !town.isAnyBusy(bidders, evening);
            if (possible) {
                int cost = now.costToMeet(town, bidders, evening);
                if (cheapest == NONE || cost < least) {
                    cheapest = evening;
                    least = cost;
                }
            }
        }
        return cheapest;
    }

    // ---- fractions

    /** Above (what = 0) or below (1) in lowest terms, of a fraction that is not below 0. */
    private static long fraction(int above, int below, int what) {
        int divisor = greatestDivisor(above, below);
        return what == 0 ? above / divisor : below / divisor;
    }

    private static int greatestDivisor(int a, int b) {
        int greater = a;
        int less = b;
        for (int turn = 0; turn < 64 && less > 0; turn++) {
            int rest = greater % less;
            greater = less;
            less = rest;
        }
        return Math.max(greater, 1);
    }

    /** What bidders, evenings and rules are, apart from the bids. */
    private static final class Town {
        final int[] purses = new int[BIDDERS];
        final int[] programmes = new int[BIDDERS];
        final int[][] values = new int[BIDDERS][EVENINGS];
        final int[][] joys = new int[BIDDERS][PROGRAMMES];
        final int[][] busyness = new int[BIDDERS][EVENINGS];
        final int[] reserves = new int[EVENINGS];
        final int[] clouds = new int[EVENINGS];
        final int[] rules = {1, 0, 10};

        Town() {
            for (int bidder = 0; bidder < BIDDERS; bidder++) {
                purses[bidder] = 100;
                programmes[bidder] = bidder;
                joys[bidder][bidder] = 9;
            }
        }

        int joyOfAll(int programme) {
            int sum = 0;
            for (int bidder = 0; bidder < BIDDERS; bidder++) {
                sum += joys[bidder][programme];
            }
            return sum;
        }

        /** The joy of a bidder in an evening of an owner; 0, if that is none. */
        int joyBy(int owner, int bidder) {
            return isBidder(owner) ? joys[bidder][programmes[owner]] : 0;
        }

        /** The value of an evening to a bidder; 0, if that is none. */
        int valueTo(int bidder, int evening) {
            return evening >= 0 && evening < EVENINGS ? values[bidder][evening] : 0;
        }

        boolean isAnyBusy(int bidders, int evening) {
            for (int bidder = 0; bidder < BIDDERS; bidder++) {
                if (((bidders >> bidder) & 1) == 1 && busyness[bidder][evening] == 1) {
                    return true;
                }
            }
            return false;
        }

        int biddersWith(int programme) {
            int bits = 0;
            for (int bidder = 0; bidder < BIDDERS; bidder++) {
                if (programmes[bidder] == programme) {
                    bits |= 1 << bidder;
                }
            }
            return bits;
        }
    }

    /** The text of the bids and, once parsed, where it fails and how many bids it has. */
    private static final class BidText {
        final int[] bytes = new int[MOST_BYTES];
        int length = 0;
        int faultAt = NONE;
        int number = 0;

        /** The caller has seen that there is room. */
        void append(int b) {
            bytes[length] = b;
            length++;
        }

        void keep(int bidsKept) {
            length = bidsKept == 0 ? 0 : bidsKept * BID_BYTES - 1;
        }

        /** A twenty-first bid would begin where the longest text ends, so it is told as one not ended. */
        void parse() {
            faultAt = NONE;
            for (int place = 0; place < length && faultAt == NONE; place++) {
                if (!fits(place)) {
                    faultAt = place;
                }
            }
            boolean ended = length == 0 || length % BID_BYTES == BID_BYTES - 1;
            if (faultAt == NONE && !ended) {
                faultAt = length;
            }
            number = faultAt == NONE ? (length + 1) / BID_BYTES : 0;
        }

        private boolean fits(int place) {
            int b = bytes[place];
            switch (place % BID_BYTES) {
                case 1:
                    return within(b, '0', '0' + BIDDERS - 1);
                case 3:
                    boolean isNothing = b == '0' && bytes[place - 1] == '0';
                    return within(b, '0', '9') && !isNothing;
                case 4:
                    return b == ';';
                default:
                    return within(b, '0', '9');
            }
        }

        int eveningOf(int bid) {
            return bytes[bid * BID_BYTES] - '0';
        }

        int bidderOf(int bid) {
            return bytes[bid * BID_BYTES + 1] - '0';
        }

        int amountOf(int bid) {
            return (bytes[bid * BID_BYTES + 2] - '0') * 10 + bytes[bid * BID_BYTES + 3] - '0';
        }
    }

    /** What comes of the bids, looked at one by one. */
    private static final class Outcome {
        final boolean[] held = new boolean[MOST_BIDS];
        final int[] leaders = new int[EVENINGS];
        final int[] amounts = new int[EVENINGS];
        /** Of each evening the amount that led before the last one; 0: there was none. */
        final int[] seconds = new int[EVENINGS];
        /** Of each bidder all amounts with which it leads. */
        final int[] bound = new int[BIDDERS];
        int numberHeld = 0;
        int firstNotHeld = NONE;
        int edition = 0;

        void judge(Town town, BidText bids, int leftOut) {
            clear();
            for (int bid = 0; bid < bids.number; bid++) {
                held[bid] = bid != leftOut && holdsNow(town, bids, bid);
                if (held[bid]) {
                    lead(bids.eveningOf(bid), bids.bidderOf(bid), bids.amountOf(bid));
                } else if (firstNotHeld == NONE) {
                    firstNotHeld = bid;
                }
            }
        }

        private void clear() {
            for (int evening = 0; evening < EVENINGS; evening++) {
                leaders[evening] = NONE;
                amounts[evening] = 0;
                seconds[evening] = 0;
            }
            for (int bidder = 0; bidder < BIDDERS; bidder++) {
                bound[bidder] = 0;
            }
            numberHeld = 0;
            firstNotHeld = NONE;
        }

        private boolean holdsNow(Town town, BidText bids, int bid) {
            int evening = bids.eveningOf(bid);
            int bidder = bids.bidderOf(bid);
            int amount = bids.amountOf(bid);
            if (amount < town.reserves[evening] || leaders[evening] == bidder) {
                return false;
            }
            if (leaders[evening] != NONE && amount < amounts[evening] + town.rules[STEP]) {
                return false;
            }
            return bound[bidder] + amount <= town.purses[bidder];
        }

        /** Each bid that holds is above the one before it, so the greatest of the others is the last that led. */
        private void lead(int evening, int bidder, int amount) {
            int before = leaders[evening];
            if (before >= 0 && before < BIDDERS) {
                bound[before] -= amounts[evening];
            }
            seconds[evening] = amounts[evening];
            leaders[evening] = bidder;
            amounts[evening] = amount;
            bound[bidder] += amount;
            numberHeld++;
        }

        /** The price of an evening that somebody owns. */
        int priceOf(Town town, int evening) {
            if (town.rules[LAW] == 0) {
                return amounts[evening];
            }
            return Math.max(seconds[evening], town.reserves[evening]);
        }

        int pricesOf(Town town, int bidder) {
            int sum = 0;
            for (int evening = 0; evening < EVENINGS; evening++) {
                if (leaders[evening] == bidder) {
                    sum += priceOf(town, evening);
                }
            }
            return sum;
        }

        int allPrices(Town town) {
            int sum = 0;
            for (int bidder = 0; bidder < BIDDERS; bidder++) {
                sum += pricesOf(town, bidder);
            }
            return sum;
        }

        int eveningsOf(int bidder) {
            int bits = 0;
            for (int evening = 0; evening < EVENINGS; evening++) {
                if (leaders[evening] == bidder) {
                    bits |= 1 << evening;
                }
            }
            return bits;
        }

        int numberOwned() {
            int owned = 0;
            for (int evening = 0; evening < EVENINGS; evening++) {
                if (leaders[evening] != NONE) {
                    owned++;
                }
            }
            return owned;
        }

        int costToMeet(Town town, int bidders, int evening) {
            int owner = leaders[evening];
            if (owner == NONE) {
                return Math.max(town.reserves[evening], 1);
            }
            boolean owned = ((bidders >> owner) & 1) == 1;
            return owned ? 0 : amounts[evening] + town.rules[STEP];
        }
    }

    /** Each bidder with one evening at most, so that all values together are the most. */
    private static final class OneEach {
        /** Bidder 4 is the lowest bit here, so that the last bidders alone are the first sets. */
        final int[] mostOfSet = new int[1 << BIDDERS];
        final int[] row = new int[BIDDERS];
        final int[] totalWithout = new int[BIDDERS];
        int total = 0;
        int edition = 0;

        void solve(Town town) {
            total = mostFrom(town, 0, 0);
            for (int bidder = 0; bidder < BIDDERS; bidder++) {
                int one = 1 << (BIDDERS - 1 - bidder);
                totalWithout[bidder] = mostOfSet[mostOfSet.length - 1 - one];
            }
            int left = total;
            int taken = 0;
            for (int bidder = 0; bidder < BIDDERS; bidder++) {
                int evening = leastChoice(town, bidder, taken, left);
                row[bidder] = evening;
                left -= town.valueTo(bidder, evening);
                taken |= evening == NONE ? 0 : 1 << evening;
            }
        }

        /** The least choice of a bidder with which it and those behind it still have all that is left. */
        private int leastChoice(Town town, int bidder, int taken, int left) {
            if (mostFrom(town, bidder + 1, taken) == left) {
                return NONE;
            }
            for (int evening = 0; evening < EVENINGS; evening++) {
                if (((taken >> evening) & 1) == 0) {
                    int rest = mostFrom(town, bidder + 1, taken | (1 << evening));
                    if (town.values[bidder][evening] + rest == left) {
                        return evening;
                    }
                }
            }
            return NONE;
        }

        /** The most that bidders from the first on can have of evenings that are not taken. */
        private int mostFrom(Town town, int first, int taken) {
            int all = (1 << (BIDDERS - first)) - 1;
            for (int set = 0; set <= all; set++) {
                mostOfSet[set] = 0;
            }
            for (int evening = 0; evening < EVENINGS; evening++) {
                boolean free = ((taken >> evening) & 1) == 0;
                // Greater sets come first: they need what lesser sets had without this evening.
                for (int set = all; free && set > 0; set--) {
                    for (int bidder = first; bidder < BIDDERS; bidder++) {
                        int one = 1 << (BIDDERS - 1 - bidder);
                        if ((set & one) != 0) {
                            int had = mostOfSet[set - one] + town.values[bidder][evening];
                            mostOfSet[set] = had > mostOfSet[set] ? had : mostOfSet[set];
                        }
                    }
                }
            }
            return mostOfSet[all];
        }
    }

    /** What each set of bidders is worth as a club. */
    private static final class Clubs {
        final int[] worths = new int[ALL_BIDDERS + 1];
        int edition = 0;

        void valueAll(Town town) {
            for (int set = 0; set <= ALL_BIDDERS; set++) {
                int sum = 0;
                for (int evening = 0; evening < EVENINGS; evening++) {
                    sum += Math.max(0, greatestValue(town, set, evening) - town.reserves[evening]);
                }
                worths[set] = sum;
            }
        }

        private static int greatestValue(Town town, int set, int evening) {
            int greatest = 0;
            for (int bidder = 0; bidder < BIDDERS; bidder++) {
                if (((set >> bidder) & 1) == 1) {
                    greatest = Math.max(greatest, town.values[bidder][evening]);
                }
            }
            return greatest;
        }

        int broughtInAllOrders(int bidder) {
            int one = 1 << bidder;
            int sum = 0;
            for (int set = 0; set <= ALL_BIDDERS; set++) {
                if ((set & one) == 0) {
                    sum += ORDERS[Integer.bitCount(set)] * (worths[set | one] - worths[set]);
                }
            }
            return sum;
        }
    }

    /** Which programmes were seen in which evenings. */
    private static final class Sightings {
        final int[] programmes = new int[EVENINGS];
        final int[] waysOf = new int[MOST_SEEN + 1];
        boolean oneWithTwo = false;
        int number = 0;

        Sightings() {
            clear();
        }

        void clear() {
            for (int evening = 0; evening < EVENINGS; evening++) {
                programmes[evening] = NONE;
            }
            oneWithTwo = false;
            number = 0;
        }

        void note(int evening, int programme) {
            if (programmes[evening] != NONE && programmes[evening] != programme) {
                oneWithTwo = true;
            }
            programmes[evening] = programme;
            number++;
        }

        /** A bidder has one programme alone, so each programme can be counted by itself. */
        int ways(Town town) {
            if (oneWithTwo) {
                return 0;
            }
            int product = 1;
            for (int programme = 0; programme < PROGRAMMES; programme++) {
                int bidders = Integer.bitCount(town.biddersWith(programme));
                product *= waysToDeal(eveningsWith(programme), bidders, town.rules[MOST]);
            }
            return product;
        }

        private int eveningsWith(int programme) {
            int sum = 0;
            for (int evening = 0; evening < EVENINGS; evening++) {
                if (programmes[evening] == programme) {
                    sum++;
                }
            }
            return Math.min(sum, MOST_SEEN);
        }

        /** In how many ways so many evenings go to so many bidders, none with more than most. */
        private int waysToDeal(int evenings, int bidders, int most) {
            waysOf[0] = 1;
            for (int n = 1; n <= evenings; n++) {
                waysOf[n] = 0;
            }
            for (int bidder = 0; bidder < bidders; bidder++) {
                for (int n = evenings; n > 0; n--) {
                    waysOf[n] = waysWithOneMore(n, most);
                }
            }
            return waysOf[evenings];
        }

        /** One more bidder takes some of n evenings, and those before it have the others. */
        private int waysWithOneMore(int n, int most) {
            int sum = 0;
            int choices = 1;
            for (int taken = 0; taken <= n && taken <= most; taken++) {
                sum += choices * waysOf[n - taken];
                choices = choices * (n - taken) / (taken + 1);
            }
            return sum;
        }
    }

    /** A row of a form that is not lost; its items are kept as ints, each cut to its form. */
    private static final class Sheet {
        final int form;
        final int[] items;

        /** The caller has seen that n is 0 to 60. */
        Sheet(int form, int n) {
            this.form = form;
            this.items = new int[n];
        }

        boolean hasItems(int from, int n) {
            return from >= 0 && n >= 0 && n <= items.length && from <= items.length - n;
        }

        void put(int i, int v) {
            if (form == BYTES) {
                items[i] = (byte) v;
            } else if (form == SHORTS) {
                items[i] = (short) v;
            } else {
                items[i] = v;
            }
        }

        /** What a set of bidders gets; a long, as five ints may be more than an int. */
        long sumOf(int set) {
            long sum = 0;
            for (int bidder = 0; bidder < BIDDERS && bidder < items.length; bidder++) {
                if (((set >> bidder) & 1) == 1) {
                    sum += items[bidder];
                }
            }
            return sum;
        }
    }
}
