import java.util.ArrayList;
import java.util.List;
import java.util.regex.Matcher;
import java.util.regex.Pattern;

/**
 * The document once more, in its plainest form: everything is worked out anew at each question, by trying
 * all ways. It shares no code with the class, so that the two can be held against each other.
 */
final class Reference {
    private static final String BID = "[0-9][0-4](?:0[1-9]|[1-9][0-9])";
    private static final Pattern BIDS = Pattern.compile("(?:" + BID + "(?:;" + BID + "){0,19})?");

    final int[] purse = {100, 100, 100, 100, 100};
    final int[] programme = {0, 1, 2, 3, 4};
    final int[][] value = new int[5][10];
    final int[][] joy = new int[5][5];
    final int[][] busy = new int[5][10];
    final int[] reserve = new int[10];
    final int[] clouds = new int[10];
    int step = 1;
    int law = 0;
    int most = 10;
    String text = "";
    final List<int[]> seen = new ArrayList<>();
    final Object[] sheets = new Object[4];
    int finding = 0;

    Reference() {
        for (int b = 0; b < 5; b++) {
            joy[b][b] = 9;
        }
    }

    /** Whether more bytes could still make a well-formed text of it. */
    private static boolean canGoOn(String start) {
        Matcher m = BIDS.matcher(start);
        return m.matches() || m.hitEnd();
    }

    int fault() {
        for (int n = 1; n <= text.length(); n++) {
            if (!canGoOn(text.substring(0, n))) {
                return n - 1;
            }
        }
        return BIDS.matcher(text).matches() ? -1 : text.length();
    }

    List<int[]> bids() {
        List<int[]> all = new ArrayList<>();
        if (fault() == -1 && !text.isEmpty()) {
            for (String one : text.split(";")) {
                all.add(new int[] {one.charAt(0) - '0', one.charAt(1) - '0', Integer.parseInt(one.substring(2))});
            }
        }
        return all;
    }

    int undo() {
        int n = bids().size();
        if (n == 0) {
            return -3;
        }
        text = n == 1 ? "" : text.substring(0, text.lastIndexOf(';'));
        return n - 1;
    }

    /** The bids that hold, in their order; one of them is the leading bid on an evening if it is the last there. */
    List<int[]> held(int leftOut) {
        List<int[]> held = new ArrayList<>();
        List<int[]> all = bids();
        for (int i = 0; i < all.size(); i++) {
            int[] bid = all.get(i);
            int[] lead = leading(held, bid[0]);
            int elsewhere = 0;
            for (int e = 0; e < 10; e++) {
                int[] other = leading(held, e);
                if (e != bid[0] && other != null && other[1] == bid[1]) {
                    elsewhere += other[2];
                }
            }
            boolean enough = bid[2] >= reserve[bid[0]] && (lead == null || bid[2] >= lead[2] + step);
            boolean another = lead == null || lead[1] != bid[1];
            if (i != leftOut && enough && another && elsewhere + bid[2] <= purse[bid[1]]) {
                held.add(new int[] {bid[0], bid[1], bid[2], i});
            }
        }
        return held;
    }

    private static int[] leading(List<int[]> held, int evening) {
        int[] last = null;
        for (int[] bid : held) {
            last = bid[0] == evening ? bid : last;
        }
        return last;
    }

    int holds(int bid) {
        for (int[] one : held(-1)) {
            if (one[3] == bid) {
                return 1;
            }
        }
        return 0;
    }

    int judged() {
        for (int i = 0; i < bids().size(); i++) {
            if (holds(i) == 0) {
                return i;
            }
        }
        return -1;
    }

    int owner(int evening) {
        return without(-1, evening);
    }

    int without(int bid, int evening) {
        int[] lead = leading(held(bid), evening);
        return lead == null ? -1 : lead[1];
    }

    int price(int evening) {
        List<int[]> held = held(-1);
        int[] lead = leading(held, evening);
        if (lead == null) {
            return -3;
        }
        if (law == 0) {
            return lead[2];
        }
        int greatest = reserve[evening];
        for (int[] bid : held) {
            if (bid[0] == evening && bid != lead) {
                greatest = Math.max(greatest, bid[2]);
            }
        }
        return greatest;
    }

    int has(int bidder, int what) {
        int bits = 0;
        int amounts = 0;
        int left = purse[bidder];
        for (int e = 0; e < 10; e++) {
            if (owner(e) == bidder) {
                bits += 1 << e;
                amounts += leading(held(-1), e)[2];
                left -= price(e);
            }
        }
        return what == 0 ? bits : what == 1 ? amounts : left;
    }

    int happy(int bidder, boolean[] refused) {
        int sum = 0;
        for (int e = 0; e < 10; e++) {
            if (owner(e) != -1 && !refused[e]) {
                sum += joy[bidder][programme[owner(e)]];
            }
        }
        return sum;
    }

    boolean[] rain(int seed) {
        boolean[] refused = new boolean[10];
        java.math.BigInteger now = java.math.BigInteger.valueOf(seed);
        for (int e = 0; e < 10; e++) {
            now = now.multiply(java.math.BigInteger.valueOf(1103515245)).add(java.math.BigInteger.valueOf(12345));
            now = now.mod(java.math.BigInteger.ONE.shiftLeft(32));
            refused[e] = now.shiftRight(16).intValue() % 16 < clouds[e];
        }
        return refused;
    }

    int harm(int evening) {
        int owner = owner(evening);
        if (owner == -1) {
            return -3;
        }
        int[] together = new int[5];
        int best = 0;
        for (int p = 0; p < 5; p++) {
            for (int b = 0; b < 5; b++) {
                together[p] += joy[b][p];
            }
            best = Math.max(best, together[p]);
        }
        return best - together[programme[owner]];
    }

    int gain(int bidder) {
        int sum = 0;
        for (int e = 0; e < 10; e++) {
            if (owner(e) == bidder) {
                sum += value[bidder][e] - price(e);
            }
        }
        return sum;
    }

    int meet(int set, int k, int what) {
        int least = Integer.MAX_VALUE;
        int which = -1;
        for (int bits = 0; bits < 1024; bits++) {
            int cost = Integer.bitCount(bits) == k ? costOf(set, bits) : Integer.MAX_VALUE;
            if (cost < least) {
                least = cost;
                which = bits;
            }
        }
        return which == -1 ? -1 : what == 0 ? least : which;
    }

    private int costOf(int set, int bits) {
        int cost = 0;
        for (int e = 0; e < 10; e++) {
            if ((bits >> e & 1) == 1) {
                for (int b = 0; b < 5; b++) {
                    if ((set >> b & 1) == 1 && busy[b][e] == 1) {
                        return Integer.MAX_VALUE;
                    }
                }
                int[] lead = leading(held(-1), e);
                if (lead == null) {
                    cost += Math.max(1, reserve[e]);
                } else if ((set >> lead[1] & 1) == 0) {
                    cost += lead[2] + step;
                }
            }
        }
        return cost;
    }

    /** The best row by trying all, in the order of rows; one bidder may be away. */
    int[] bestRow(int away) {
        int[] best = {-1, -1, -1, -1, -1, -1};
        tryRows(0, away, new int[5], 0, 0, best);
        return best;
    }

    /** best has the row and behind it its sum. */
    private void tryRows(int bidder, int away, int[] row, int taken, int sum, int[] best) {
        if (bidder == 5) {
            if (sum > best[5]) {
                System.arraycopy(row, 0, best, 0, 5);
                best[5] = sum;
            }
            return;
        }
        row[bidder] = -1;
        tryRows(bidder + 1, away, row, taken, sum, best);
        for (int e = 0; e < 10 && bidder != away; e++) {
            if ((taken >> e & 1) == 0) {
                row[bidder] = e;
                tryRows(bidder + 1, away, row, taken | 1 << e, sum + value[bidder][e], best);
            }
        }
    }

    int pays(int bidder) {
        int[] now = bestRow(-1);
        int others = 0;
        for (int b = 0; b < 5; b++) {
            others += b == bidder || now[b] == -1 ? 0 : value[b][now[b]];
        }
        return bestRow(bidder)[5] - others;
    }

    int club(int set) {
        int sum = 0;
        for (int e = 0; e < 10; e++) {
            int more = 0;
            for (int b = 0; b < 5; b++) {
                more = (set >> b & 1) == 1 ? Math.max(more, value[b][e] - reserve[e]) : more;
            }
            sum += more;
        }
        return sum;
    }

    long share(int bidder, int what) {
        int[] clubs = new int[32];
        for (int set = 0; set < 32; set++) {
            clubs[set] = club(set);
        }
        return lowest(inAllOrders(bidder, 0, clubs), 120, what);
    }

    private static long inAllOrders(int bidder, int come, int[] clubs) {
        long sum = 0;
        for (int b = 0; b < 5; b++) {
            if ((come >> b & 1) == 0) {
                int then = come | 1 << b;
                if (b == bidder) {
                    long orders = 1;
                    for (int left = 5 - Integer.bitCount(then); left > 1; left--) {
                        orders *= left;
                    }
                    sum += orders * (clubs[then] - clubs[come]);
                } else {
                    sum += inAllOrders(bidder, then, clubs);
                }
            }
        }
        return sum;
    }

    static long lowest(long above, long below, int what) {
        long divisor = java.math.BigInteger.valueOf(above).gcd(java.math.BigInteger.valueOf(below)).longValue();
        return (what == 0 ? above : below) / divisor;
    }

    int rather(int s) {
        if (sheets[s] == null) {
            return find(1);
        }
        if (size(s) < 5) {
            return -3;
        }
        for (int set = 1; set < 32; set++) {
            long got = 0;
            for (int b = 0; b < 5; b++) {
                got += (set >> b & 1) == 1 ? item(s, b) : 0;
            }
            if (got < club(set)) {
                return set;
            }
        }
        return -1;
    }

    /** All ways, one by one; asked for an evening: the bits of whose it was in one of them. */
    int owners(int evening) {
        int[] was = new int[10];
        java.util.Arrays.fill(was, -1);
        for (int[] one : seen) {
            if (was[one[0]] != -1 && was[one[0]] != one[1]) {
                return 0;
            }
            was[one[0]] = one[1];
        }
        int[] result = new int[11];
        deal(0, was, new int[10], new int[5], result);
        return evening == -1 ? result[10] : result[evening];
    }

    private void deal(int e, int[] was, int[] whose, int[] had, int[] result) {
        if (e == 10) {
            result[10]++;
            for (int i = 0; i < 10; i++) {
                result[i] |= was[i] == -1 ? 0 : 1 << whose[i];
            }
            return;
        }
        if (was[e] == -1) {
            deal(e + 1, was, whose, had, result);
            return;
        }
        for (int b = 0; b < 5; b++) {
            if (programme[b] == was[e] && had[b] < most) {
                had[b]++;
                whose[e] = b;
                deal(e + 1, was, whose, had, result);
                had[b]--;
            }
        }
    }

    int swap(int a, int b) {
        int ofA = owner(a);
        int ofB = owner(b);
        if (ofA == -1 || ofB == -1 || ofA == ofB) {
            return -3;
        }
        return value[ofA][b] > value[ofA][a] && value[ofB][a] > value[ofB][b] ? 1 : 0;
    }

    // ---- sheets are true rows of bytes, shorts and ints

    int find(int number) {
        finding = number;
        return -10 - number;
    }

    static Object row(int form, int n) {
        return form == 0 ? new byte[n] : form == 1 ? new short[n] : (Object) new int[n];
    }

    int size(int s) {
        return java.lang.reflect.Array.getLength(sheets[s]);
    }

    int item(int s, int i) {
        return ((Number) java.lang.reflect.Array.get(sheets[s], i)).intValue();
    }

    private int form(int s) {
        return sheets[s] instanceof byte[] ? 0 : sheets[s] instanceof short[] ? 1 : 2;
    }

    private void put(int s, int i, int v) {
        if (sheets[s] instanceof byte[] bytes) {
            bytes[i] = (byte) v;
        } else if (sheets[s] instanceof short[] shorts) {
            shorts[i] = (short) v;
        } else {
            ((int[]) sheets[s])[i] = v;
        }
    }

    int lay(int s, int form, int i, int v) {
        int found = sheets[s] == null ? 1 : form(s) != form ? 3 : i < 0 || i >= size(s) ? 2 : 0;
        if (found != 0) {
            return find(found);
        }
        put(s, i, v);
        return 1;
    }

    int get(int s, int form, int i) {
        int found = sheets[s] == null ? 1 : form(s) != form ? 3 : i < 0 || i >= size(s) ? 2 : 0;
        if (found != 0) {
            find(found);
            return Integer.MIN_VALUE;
        }
        return item(s, i);
    }

    int copy(int s, int i, int t, int j, int n) {
        try {
            System.arraycopy(sheets[s], i, sheets[t], j, n);
            return 1;
        } catch (NullPointerException e) {
            return find(1);
        } catch (ArrayStoreException e) {
            return find(4);
        } catch (IndexOutOfBoundsException e) {
            return find(2);
        }
    }

    int write(int s) {
        if (sheets[s] == null) {
            return find(1);
        }
        int n = Math.min(10, size(s));
        for (int e = 0; e < n; e++) {
            put(s, e, owner(e));
        }
        return n;
    }

    int read(int s, int bidder) {
        if (sheets[s] == null) {
            return find(1);
        }
        for (int e = 0; e < 10; e++) {
            if (e >= size(s) || item(s, e) < 0 || item(s, e) > 99) {
                return e;
            }
            value[bidder][e] = item(s, e);
        }
        return 10;
    }

    int count(int what) {
        int owned = 0;
        int prices = 0;
        for (int e = 0; e < 10; e++) {
            if (owner(e) != -1) {
                owned++;
                prices += price(e);
            }
        }
        int[] all = {bids().size(), text.length(), held(-1).size(), owned, prices, seen.size(), step, law, finding};
        return all[what];
    }
}
