/** Promises 23 to 28: clubs. */
public final class ClubsTest {
    private static final int NONE = -1, BAD = -2, NOT = -3, NULL = -11;
    private static final long BAD_LONG = Long.MIN_VALUE + 2;
    private static final int MIN = Integer.MIN_VALUE, MAX = Integer.MAX_VALUE;
    private static final Due due = new Due("ClubsTest");

    public static void main(String[] args) {
        meet();
        meetBusy();
        each();
        pays();
        club();
        share();
        rather();
        due.finish();
    }

    private static void meetIs(EveningAuction x, int bidders, int k, int cost, int evenings) {
        String asked = "23 meet(" + bidders + ", " + k + ", ";
        due.is(asked + "0)", x.meet(bidders, k, 0), cost);
        due.is(asked + "1)", x.meet(bidders, k, 1), evenings);
    }

    private static void meet() {
        EveningAuction x = Due.withBids("3010;5120;0215");
        meetIs(x, 1, 1, 0, 8);
        meetIs(x, 2, 1, 0, 32);
        meetIs(x, 3, 2, 0, 40);
        meetIs(x, 3, 3, 1, 42);
        meetIs(x, 16, 4, 4, 2 + 4 + 16 + 64);
        for (int evening = 0; evening < 10; evening++) {
            x.evening(evening, 0, evening == 0 ? 15 : 9);
        }
        meetIs(x, 3, 3, 9, 2 + 8 + 32);
        x.evening(9, 0, 8);
        meetIs(x, 3, 3, 8, 8 + 32 + 512);
        x.evening(9, 0, 1);
        meetIs(x, 3, 3, 1, 8 + 32 + 512);
        x.evening(9, 0, 0);
        meetIs(x, 3, 3, 1, 8 + 32 + 512);
        int[][] wrong = {{0, 1, 0}, {-1, 1, 0}, {32, 1, 0}, {1, 0, 0}, {1, 5, 0}, {1, 1, -1}, {1, 1, 2},
            {MIN, 1, 0}, {MAX, 1, 0}, {1, MIN, 0}, {1, MAX, 0}, {1, 1, MIN}, {1, 1, MAX}};
        for (int[] w : wrong) {
            due.is("23 meet(" + w[0] + ", " + w[1] + ", " + w[2] + ")", x.meet(w[0], w[1], w[2]), BAD);
        }
    }

    private static void meetBusy() {
        EveningAuction x = Due.withBids("0010;1199");
        for (int evening = 2; evening < 10; evening++) {
            x.busy(4, evening, 1);
        }
        x.set(0, 7);
        meetIs(x, 16, 2, 10 + 7 + 99 + 7, 3);
        meetIs(x, 16, 1, 17, 1);
        meetIs(x, 16, 3, NONE, NONE);
        meetIs(x, 18, 2, 17, 3);
        meetIs(x, 19, 2, 0, 3);
        meetIs(x, 19, 3, NONE, NONE);
        meetIs(x, 8, 2, 2, 12);
        x.busy(0, 0, 1);
        meetIs(x, 17, 1, 99 + 7, 2);
        meetIs(x, 16, 1, 17, 1);
        x.busy(1, 1, 1);
        meetIs(x, 19, 1, NONE, NONE);
        meetIs(x, 31, 1, NONE, NONE);
    }

    private static void eachIs(EveningAuction x, int total, int... row) {
        due.is("24 each(NONE)", x.each(NONE), total);
        for (int bidder = 0; bidder < 5; bidder++) {
            due.is("24 each(" + bidder + ")", x.each(bidder), row[bidder]);
        }
    }

    private static void each() {
        EveningAuction x = new EveningAuction();
        eachIs(x, 0, NONE, NONE, NONE, NONE, NONE);
        x.value(3, 7, 5);
        eachIs(x, 5, NONE, NONE, NONE, 7, NONE);
        x.value(1, 7, 5);
        eachIs(x, 5, NONE, NONE, NONE, 7, NONE);
        x.value(1, 2, 5);
        eachIs(x, 10, NONE, 2, NONE, 7, NONE);
        x.value(3, 2, 5);
        eachIs(x, 10, NONE, 2, NONE, 7, NONE);
        x.value(0, 2, 6);
        eachIs(x, 11, 2, NONE, NONE, 7, NONE);
        x.value(4, 9, 1);
        eachIs(x, 12, 2, NONE, NONE, 7, 9);
        x.value(4, 2, 99);
        eachIs(x, 104, NONE, NONE, NONE, 7, 2);
        x.value(4, 2, 0);
        for (int bidder = 0; bidder < 5; bidder++) {
            for (int evening = 0; evening < 10; evening++) {
                x.value(bidder, evening, 99);
            }
        }
        eachIs(x, 495, 0, 1, 2, 3, 4);
        x.value(0, 0, 98);
        x.value(1, 0, 0);
        eachIs(x, 495, 1, 2, 0, 3, 4);
        for (int bidder : new int[] {-2, 5, MIN, MAX}) {
            due.is("24 each(" + bidder + ")", x.each(bidder), BAD);
        }
    }

    private static void pays() {
        EveningAuction x = new EveningAuction();
        due.is("25 pays(0) of no values", x.pays(0), 0);
        x.value(0, 0, 50);
        x.value(1, 0, 40);
        x.value(2, 0, 30);
        due.is("25 pays(0)", x.pays(0), 40);
        due.is("25 pays(1)", x.pays(1), 0);
        x.value(1, 1, 35);
        due.is("25 pays(0) when the next has another", x.pays(0), 30);
        due.is("25 pays(1) alone", x.pays(1), 0);
        x.value(3, 1, 20);
        due.is("25 pays(1) with one behind it", x.pays(1), 20);
        due.is("25 pays(0) by two others", x.pays(0), 30);
        x.value(4, 0, 33);
        due.is("25 pays(0) by the last", x.pays(0), 33);
        x.value(4, 0, 60);
        due.is("25 pays(0) of none", x.pays(0), 0);
        due.is("25 pays(4)", x.pays(4), 50);
        for (int bidder : new int[] {-1, 5, MIN, MAX}) {
            due.is("25 pays(" + bidder + ")", x.pays(bidder), BAD);
        }
    }

    private static EveningAuction threeValues() {
        EveningAuction x = new EveningAuction();
        x.value(0, 0, 10);
        x.value(1, 0, 30);
        x.value(2, 9, 8);
        x.evening(0, 0, 4);
        return x;
    }

    private static void club() {
        EveningAuction x = threeValues();
        due.is("26 club(0)", x.club(0), 0);
        due.is("26 club(1)", x.club(1), 6);
        due.is("26 club(2)", x.club(2), 26);
        due.is("26 club(3)", x.club(3), 26);
        due.is("26 club(4)", x.club(4), 8);
        due.is("26 club(5)", x.club(5), 14);
        due.is("26 club(31)", x.club(31), 34);
        due.is("26 club(24)", x.club(24), 0);
        x.evening(9, 0, 8);
        due.is("26 club(4) of a like reserve", x.club(4), 0);
        x.evening(9, 0, 90);
        due.is("26 club(5) never below", x.club(5), 6);
        for (int set : new int[] {-1, 32, MIN, MAX}) {
            due.is("26 club(" + set + ")", x.club(set), BAD);
        }
    }

    private static void shareIs(EveningAuction x, int bidder, long above, long below) {
        due.is("27 share(" + bidder + ", 0)", x.share(bidder, 0), above);
        due.is("27 share(" + bidder + ", 1)", x.share(bidder, 1), below);
    }

    private static void share() {
        EveningAuction x = threeValues();
        shareIs(x, 0, 3, 1);
        shareIs(x, 1, 23, 1);
        shareIs(x, 2, 8, 1);
        shareIs(x, 3, 0, 1);
        x.value(3, 0, 5);
        // Of 1, 6 and 26 each step is shared by those who reach it: 1/3; 1/3 and 5/2; 1/3 and 5/2 and 20.
        shareIs(x, 3, 1, 3);
        shareIs(x, 0, 17, 6);
        shareIs(x, 1, 137, 6);
        x.value(4, 0, 4);
        shareIs(x, 4, 0, 1);
        x.value(4, 0, 99);
        x.value(2, 0, 11);
        // 1, 6, 7, 26, 95 by 3, 0, 2, 1, 4.
        shareIs(x, 3, 1, 5);
        shareIs(x, 0, 29, 20);
        shareIs(x, 2, 8 * 60 + 12 + 75 + 20, 60);
        long[][] wrong = {{-1, 0}, {5, 0}, {0, -1}, {0, 2}, {MIN, 0}, {MAX, 0}, {0, MIN}, {0, MAX}};
        for (long[] w : wrong) {
            due.is("27 share(" + w[0] + ", " + w[1] + ")", x.share((int) w[0], (int) w[1]), BAD_LONG);
        }
    }

    private static void rather() {
        EveningAuction x = threeValues();
        Due.ints(x, 0, 6, 26, 8, 0, 0);
        due.is("28 rather(0) of enough", x.rather(0), NONE);
        Due.ints(x, 0, 6, 20, 8, 0, 0);
        due.is("28 rather(0)", x.rather(0), 2);
        Due.ints(x, 0, 5, 26, 8, 0, 0);
        due.is("28 rather(0)", x.rather(0), 1);
        Due.ints(x, 0, 9, 26, 8, 0, -1, 50);
        due.is("28 rather(0) of one below 0", x.rather(0), 16);
        Due.ints(x, 0, 6, 26, 8, -2, 0);
        due.is("28 rather(0): the least set, not the smallest sum", x.rather(0), 8);
        x.evening(9, 0, 3);
        Due.ints(x, 0, 6, 27, 4, 1, 0);
        due.is("28 rather(0) by a reserve", x.rather(0), 4);
        x.value(1, 0, 33);
        Due.ints(x, 0, 6, 29, 4, 1, 0);
        due.is("28 rather(0) of one ahead of two", x.rather(0), 4);
        Due.ints(x, 0, MAX, MAX, MAX, MAX, MAX);
        due.is("28 rather(0): a sum does not wrap", x.rather(0), NONE);
        Due.ints(x, 0, MIN, MIN, MIN, MIN, MIN);
        due.is("28 rather(0) of the least", x.rather(0), 1);
        x.sheet(0, 2, 60);
        for (int i = 5; i < 60; i++) {
            x.lay(0, 2, i, 1000);
        }
        due.is("28 rather(0): items behind the fifth are nobody's", x.rather(0), 1);
        x.sheet(1, 0, 5);
        due.is("28 rather(1) of bytes", x.rather(1), 1);
        x.lay(1, 0, 0, 200);
        x.lay(1, 0, 1, 127);
        due.is("28 rather(1): bytes have a sign", x.rather(1), 1);
        x.sheet(1, 1, 4);
        due.is("28 rather(1) of four", x.rather(1), NOT);
        due.is("28 rather(2) of a lost one", x.rather(2), NULL);
        due.is("28 count(8)", x.count(8), 1);
        for (int s : new int[] {-1, 4, MIN, MAX}) {
            due.is("28 rather(" + s + ")", x.rather(s), BAD);
        }
        twoTogether();
    }

    /** Each has enough alone, two together do not. */
    private static void twoTogether() {
        EveningAuction x = new EveningAuction();
        x.value(3, 0, 10);
        x.value(4, 1, 10);
        Due.ints(x, 0, 0, 0, 0, 10, 10);
        due.is("28 rather(0) of two", x.rather(0), NONE);
        x.value(4, 0, 5);
        Due.ints(x, 0, 0, 0, -1, 11, 15);
        due.is("28 rather(0) of one below", x.rather(0), 4);
        Due.ints(x, 0, 0, -1, 1, 10, 15);
        due.is("28 rather(0) of a second below", x.rather(0), 2);
        EveningAuction y = new EveningAuction();
        for (int bidder = 0; bidder < 5; bidder++) {
            y.value(bidder, bidder, 1);
        }
        Due.ints(y, 0, 1, 1, 1, 1, 0);
        due.is("28 rather(0) of the last", y.rather(0), 16);
        Due.ints(y, 0, 2, 2, 2, 2, -3);
        due.is("28 rather(0) of the last below 0", y.rather(0), 16);
    }
}
