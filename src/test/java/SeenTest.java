/** Promises 29 to 33: seen, weather, swaps. */
public final class SeenTest {
    private static final int NONE = -1, BAD = -2, NOT = -3, FULL = -4;
    private static final long BAD_LONG = Long.MIN_VALUE + 2;
    private static final int MIN = Integer.MIN_VALUE, MAX = Integer.MAX_VALUE;
    private static final Due due = new Due("SeenTest");

    public static void main(String[] args) {
        seen();
        forget();
        owners();
        ownersOfTwoProgrammes();
        worth();
        swap();
        due.finish();
    }

    private static void seen() {
        EveningAuction x = new EveningAuction();
        int[][] wrong = {{-1, 0}, {10, 0}, {0, -1}, {0, 5}, {MIN, 0}, {MAX, 0}, {0, MIN}, {0, MAX}};
        for (int[] w : wrong) {
            due.is("29 seen(" + w[0] + ", " + w[1] + ")", x.seen(w[0], w[1]), BAD);
        }
        due.is("29 count(5) behind refusals", x.count(5), 0);
        for (int n = 1; n <= 8; n++) {
            due.is("29 seen", x.seen(9, 4), n);
        }
        due.is("29 seen when full", x.seen(8, 4), FULL);
        due.is("29 bad seen when full", x.seen(10, 4), BAD);
        due.is("29 count(5)", x.count(5), 8);
        due.is("29 the ninth was not seen", x.owners(8), 0);
        due.is("29 one seen again is still one", x.owners(NONE), 1);
    }

    private static void forget() {
        EveningAuction x = new EveningAuction();
        due.is("30 forget() of none", x.forget(), 0);
        x.seen(3, 3);
        x.seen(3, 2);
        due.is("30 owners(NONE)", x.owners(NONE), 0);
        due.is("30 forget()", x.forget(), 2);
        due.is("30 count(5)", x.count(5), 0);
        due.is("30 owners(3)", x.owners(3), 0);
        due.is("30 owners(NONE) again", x.owners(NONE), 1);
        due.is("30 seen again", x.seen(3, 2), 1);
        due.is("30 owners(3) again", x.owners(3), 4);
    }

    private static void owners() {
        EveningAuction x = new EveningAuction();
        due.is("31 owners(NONE) of none", x.owners(NONE), 1);
        for (int bidder = 0; bidder < 5; bidder++) {
            x.bidder(bidder, 1, 2);
        }
        for (int evening = 0; evening < 8; evening++) {
            x.seen(evening, 2);
        }
        for (int most = 1; most <= 10; most++) {
            x.set(2, most);
            due.is("31 owners(NONE) with most " + most, x.owners(NONE), bruteForce(most));
            due.is("31 owners(7) with most " + most, x.owners(7), most == 1 ? 0 : 31);
        }
        due.is("31 owners(NONE) of five to the eighth", x.owners(NONE), 390625);
        x.set(2, 7);
        due.is("31 owners(NONE) with all for one left out", x.owners(NONE), 390620);
        due.is("31 owners(8) of one not seen", x.owners(8), 0);
        x.bidder(3, 1, 1);
        due.is("31 owners(7) with one less", x.owners(7), 23);
        for (int evening : new int[] {-2, 10, MIN, MAX}) {
            due.is("31 owners(" + evening + ")", x.owners(evening), BAD);
        }
    }

    /** Rows of eight of five with none above most, one by one. */
    private static int bruteForce(int most) {
        int ways = 0;
        for (int row = 0; row < 390625; row++) {
            int[] had = new int[5];
            boolean well = true;
            int rest = row;
            for (int evening = 0; evening < 8; evening++) {
                had[rest % 5]++;
                well &= had[rest % 5] <= most;
                rest /= 5;
            }
            ways += well ? 1 : 0;
        }
        return ways;
    }

    private static void ownersOfTwoProgrammes() {
        EveningAuction x = new EveningAuction();
        x.bidder(4, 1, 0);
        x.bidder(3, 1, 1);
        x.seen(0, 0);
        x.seen(5, 0);
        x.seen(9, 1);
        due.is("31 owners(NONE)", x.owners(NONE), 8);
        due.is("31 owners(0)", x.owners(0), 17);
        due.is("31 owners(9)", x.owners(9), 10);
        x.set(2, 1);
        due.is("31 owners(NONE) with most 1", x.owners(NONE), 4);
        x.seen(9, 1);
        due.is("31 one seen again alike", x.owners(NONE), 4);
        x.seen(6, 2);
        due.is("31 owners(NONE) with a third", x.owners(NONE), 4);
        due.is("31 owners(6)", x.owners(6), 4);
        x.seen(7, 2);
        due.is("31 owners(NONE) with too many", x.owners(NONE), 0);
        due.is("31 owners(0) with no way", x.owners(0), 0);
        x.set(2, 2);
        due.is("31 owners(NONE) with most 2", x.owners(NONE), 8);
        x.bidder(2, 1, 3);
        due.is("31 owners(NONE) with nobody for one", x.owners(NONE), 0);
        x.bidder(2, 1, 2);
        x.seen(9, 0);
        due.is("31 owners(NONE) of one with two", x.owners(NONE), 0);
        due.is("31 owners(0) of one with two", x.owners(0), 0);
        due.is("31 owners(9) of one with two", x.owners(9), 0);
    }

    private static void worthIs(EveningAuction x, int bidder, int evening, long above, long below) {
        due.is("32 worth(" + bidder + ", " + evening + ", 0)", x.worth(bidder, evening, 0), above);
        due.is("32 worth(" + bidder + ", " + evening + ", 1)", x.worth(bidder, evening, 1), below);
    }

    private static void worth() {
        EveningAuction x = new EveningAuction();
        worthIs(x, 4, 9, 0, 1);
        x.value(4, 9, 99);
        worthIs(x, 4, 9, 99, 1);
        x.evening(9, 1, 1);
        worthIs(x, 4, 9, 99 * 15, 16);
        x.evening(9, 1, 4);
        worthIs(x, 4, 9, 99 * 3, 4);
        x.evening(9, 1, 16);
        worthIs(x, 4, 9, 0, 1);
        x.evening(9, 1, 8);
        worthIs(x, 4, 9, 99, 2);
        x.value(4, 9, 10);
        worthIs(x, 4, 9, 5, 1);
        int[][] wrong = {{-1, 0, 0}, {5, 0, 0}, {0, -1, 0}, {0, 10, 0}, {0, 0, -1}, {0, 0, 2},
            {MIN, 0, 0}, {MAX, 0, 0}, {0, MIN, 0}, {0, MAX, 0}, {0, 0, MIN}, {0, 0, MAX}};
        for (int[] w : wrong) {
            due.is("32 worth(" + w[0] + ", " + w[1] + ", " + w[2] + ")", x.worth(w[0], w[1], w[2]), BAD_LONG);
        }
    }

    private static void swap() {
        EveningAuction x = Due.withBids("0010;9110;5010");
        due.is("33 swap(0, 9) of like values", x.swap(0, 9), 0);
        x.value(0, 9, 1);
        due.is("33 swap(0, 9) for one alone", x.swap(0, 9), 0);
        x.value(1, 0, 1);
        due.is("33 swap(0, 9)", x.swap(0, 9), 1);
        due.is("33 swap(9, 0)", x.swap(9, 0), 1);
        x.value(0, 0, 1);
        due.is("33 swap(0, 9) not truly more for the first", x.swap(0, 9), 0);
        due.is("33 swap(9, 0) not truly more for the second", x.swap(9, 0), 0);
        x.value(0, 0, 0);
        x.value(1, 9, 1);
        due.is("33 swap(0, 9) not truly more for the other", x.swap(0, 9), 0);
        due.is("33 swap(0, 5) of one bidder", x.swap(0, 5), NOT);
        due.is("33 swap(0, 1) of nobody's", x.swap(0, 1), NOT);
        due.is("33 swap(1, 0) of nobody's", x.swap(1, 0), NOT);
        due.is("33 swap(1, 2) of nobody's", x.swap(1, 2), NOT);
        int[][] wrong = {{0, 0}, {1, 1}, {-1, 0}, {0, -1}, {10, 0}, {0, 10}, {MIN, MAX}, {MAX, MIN}, {-1, -1}};
        for (int[] w : wrong) {
            due.is("33 swap(" + w[0] + ", " + w[1] + ")", x.swap(w[0], w[1]), BAD);
        }
    }
}
