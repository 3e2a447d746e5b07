/** Promises 13 to 22: what comes of it. */
public final class OutcomeTest {
    private static final int NONE = -1, BAD = -2, NOT = -3;
    private static final int MIN = Integer.MIN_VALUE, MAX = Integer.MAX_VALUE;
    private static final int[] NO_EVENINGS = {-1, 10, -2, MIN, MAX};
    private static final int[] NO_BIDDERS = {-1, 5, -2, MIN, MAX};
    private static final Due due = new Due("OutcomeTest");

    public static void main(String[] args) {
        holds();
        purseHolds();
        judged();
        owner();
        price();
        has();
        happy();
        wet();
        harm();
        gain();
        without();
        due.finish();
    }

    private static void holdRow(EveningAuction x, int... want) {
        for (int bid = 0; bid < want.length; bid++) {
            due.is("13 holds(" + bid + ")", x.holds(bid), want[bid]);
        }
        due.is("13 holds(behind the last)", x.holds(want.length), BAD);
    }

    private static void holds() {
        EveningAuction x = Due.withBids("0010;0011;0110;0111;0211;0212");
        holdRow(x, 1, 0, 0, 1, 0, 1);
        x.set(0, 2);
        holdRow(x, 1, 0, 0, 0, 0, 1);
        x.evening(0, 0, 11);
        holdRow(x, 0, 1, 0, 0, 0, 0);
        x.evening(0, 0, 13);
        holdRow(x, 0, 0, 0, 0, 0, 0);
        due.is("13 holds(-1)", x.holds(-1), BAD);
        due.is("13 holds(least)", x.holds(MIN), BAD);
        due.is("13 holds(greatest)", x.holds(MAX), BAD);
        x.type(';');
        due.is("13 holds(0) with a fault", x.holds(0), BAD);
    }

    private static void purseHolds() {
        EveningAuction x = Due.withBids("0060;1041;1040;2001;0161;2020");
        holdRow(x, 1, 0, 1, 0, 1, 1);
        x.bidder(0, 0, 59);
        holdRow(x, 0, 1, 0, 1, 1, 0);
        x.bidder(0, 0, 0);
        holdRow(x, 0, 0, 0, 0, 1, 0);
        x.bidder(0, 0, 101);
        holdRow(x, 1, 1, 0, 0, 1, 1);
    }

    private static void judged() {
        EveningAuction x = new EveningAuction();
        due.is("14 judged() of none", x.judged(), NONE);
        Due.type(x, "0010;1010");
        due.is("14 judged() of all well", x.judged(), NONE);
        Due.type(x, ";0105;0012");
        due.is("14 judged() of two", x.judged(), 2);
        x.evening(0, 0, 11);
        due.is("14 judged() of the first", x.judged(), 0);
        x.type('x');
        due.is("14 judged() with a fault", x.judged(), NONE);
    }

    private static void owner() {
        EveningAuction x = Due.withBids("9401;0020;0121");
        due.is("15 owner(9)", x.owner(9), 4);
        due.is("15 owner(0)", x.owner(0), 1);
        due.is("15 owner(1)", x.owner(1), NONE);
        for (int evening : NO_EVENINGS) {
            due.is("15 owner(" + evening + ")", x.owner(evening), BAD);
        }
        x.type(';');
        due.is("15 owner(0) with a fault", x.owner(0), NONE);
    }

    private static void price() {
        EveningAuction x = Due.withBids("0010;0112;0020;0215;1305;2107;2007;2012");
        due.is("16 price(0) by law 0", x.price(0), 20);
        due.is("16 price(1) by law 0", x.price(1), 5);
        due.is("16 price(2) by law 0", x.price(2), 12);
        x.set(1, 1);
        due.is("16 price(0) by law 1", x.price(0), 12);
        due.is("16 price(1) by law 1 alone", x.price(1), 0);
        due.is("16 price(2): only those that held", x.price(2), 7);
        x.evening(1, 0, 5);
        due.is("16 price(1) by law 1 with a reserve", x.price(1), 5);
        x.evening(0, 0, 12);
        due.is("16 price(0) with a like reserve", x.price(0), 12);
        x.evening(0, 0, 13);
        due.is("16 price(0) with a reserve above", x.price(0), 13);
        x.evening(1, 0, 6);
        due.is("16 price(1) of nobody's", x.price(1), NOT);
        due.is("16 price(3) of nobody's", x.price(3), NOT);
        for (int evening : NO_EVENINGS) {
            due.is("16 price(" + evening + ")", x.price(evening), BAD);
        }
    }

    private static void has() {
        EveningAuction x = Due.withBids("0010;9020;5130;5035;5140;0105");
        due.is("17 has(0, 0)", x.has(0, 0), 513);
        due.is("17 has(0, 1)", x.has(0, 1), 30);
        due.is("17 has(0, 2)", x.has(0, 2), 70);
        due.is("17 has(1, 0)", x.has(1, 0), 32);
        due.is("17 has(1, 1)", x.has(1, 1), 40);
        due.is("17 has(1, 2)", x.has(1, 2), 60);
        due.is("17 has(2, 0)", x.has(2, 0), 0);
        due.is("17 has(2, 1)", x.has(2, 1), 0);
        due.is("17 has(2, 2)", x.has(2, 2), 100);
        x.set(1, 1);
        due.is("17 has(0, 1) by law 1", x.has(0, 1), 30);
        due.is("17 has(0, 2) by law 1", x.has(0, 2), 100);
        due.is("17 has(1, 2) by law 1", x.has(1, 2), 65);
        for (int bidder : NO_BIDDERS) {
            due.is("17 has(" + bidder + ", 0)", x.has(bidder, 0), BAD);
        }
        for (int what : new int[] {-1, 3, MIN, MAX}) {
            due.is("17 has(0, " + what + ")", x.has(0, what), BAD);
        }
    }

    private static void happy() {
        EveningAuction x = Due.withBids("0010;1010;2110;3210");
        x.joy(4, 0, 2);
        x.joy(4, 1, 3);
        x.joy(4, 2, 5);
        x.joy(4, 3, 7);
        due.is("18 happy(4)", x.happy(4), 2 + 2 + 3 + 5);
        due.is("18 happy(0)", x.happy(0), 18);
        due.is("18 happy(3)", x.happy(3), 0);
        x.bidder(0, 1, 3);
        due.is("18 happy(4) with another programme", x.happy(4), 7 + 7 + 3 + 5);
        due.is("18 happy(3) with its programme", x.happy(3), 18);
        for (int bidder : NO_BIDDERS) {
            due.is("18 happy(" + bidder + ")", x.happy(bidder), BAD);
        }
    }

    /** Which evenings a seed refuses, told by the joy of one in each of them. */
    private static void wet() {
        for (int owner = 0; owner < 5; owner++) {
            for (int seed : new int[] {0, 1, 7, -1, MIN, MAX, 123456789}) {
                EveningAuction x = joyOfOne(owner);
                for (int clouds : new int[] {0, 1, 5, 8, 15, 16}) {
                    for (int evening = 0; evening < 10; evening++) {
                        x.evening(evening, 1, evening % 2 == 0 ? clouds : 16 - clouds);
                    }
                    due.is("19 wet(0, " + seed + ") of " + owner + " with " + clouds, x.wet(0, seed),
                        dryOf(owner, seed, clouds));
                }
            }
        }
        EveningAuction x = joyOfOne(0);
        for (int bidder : NO_BIDDERS) {
            due.is("19 wet(" + bidder + ", 0)", x.wet(bidder, 0), BAD);
        }
        aLotForEachEveningOwnedOrNot();
    }

    /** Each owns two evenings; bidder 0 has a joy of 1 in those of one owner alone. */
    private static EveningAuction joyOfOne(int owner) {
        EveningAuction x = Due.withBids("0001;1101;2201;3301;4401;5001;6101;7201;8301;9401");
        for (int programme = 0; programme < 5; programme++) {
            x.joy(0, programme, programme == owner ? 1 : 0);
        }
        return x;
    }

    private static int dryOf(int owner, int seed, int clouds) {
        int dry = 0;
        int now = seed;
        for (int evening = 0; evening < 10; evening++) {
            now = 1103515245 * now + 12345;
            int upper = (now >> 16) & 0xffff;
            boolean refused = upper % 16 < (evening % 2 == 0 ? clouds : 16 - clouds);
            if (evening % 5 == owner && !refused) {
                dry++;
            }
        }
        return dry;
    }

    /** From 1 on the seeds are 1103527590 and 2524885223, and lots of 16 are 6 and 14. */
    private static void aLotForEachEveningOwnedOrNot() {
        EveningAuction x = Due.withBids("1010");
        x.evening(1, 1, 14);
        due.is("19 wet(0, 1) by a like lot", x.wet(0, 1), 9);
        x.evening(1, 1, 15);
        due.is("19 wet(0, 1) by a lot below", x.wet(0, 1), 0);
        due.is("19 happy(0) whatever the weather", x.happy(0), 9);
    }

    private static void harm() {
        EveningAuction x = Due.withBids("0010;1110");
        due.is("20 harm(0) of like joys", x.harm(0), 0);
        x.joy(2, 4, 8);
        x.joy(3, 4, 8);
        due.is("20 harm(0)", x.harm(0), 25 - 9);
        x.joy(4, 1, 4);
        due.is("20 harm(1)", x.harm(1), 25 - 13);
        x.bidder(1, 1, 4);
        due.is("20 harm(1) of the best programme", x.harm(1), 0);
        for (int bidder = 0; bidder < 5; bidder++) {
            x.joy(bidder, 4, 0);
            x.joy(bidder, 3, 9);
        }
        due.is("20 harm(1) of all joy", x.harm(1), 45);
        for (int bidder = 0; bidder < 5; bidder++) {
            x.joy(bidder, 3, 8);
            x.joy(bidder, 0, 9);
        }
        due.is("20 harm(1) by the first programme", x.harm(1), 45);
        due.is("20 harm(0) of the first programme", x.harm(0), 0);
        for (int bidder = 0; bidder < 5; bidder++) {
            for (int programme = 0; programme < 5; programme++) {
                x.joy(bidder, programme, 0);
            }
        }
        due.is("20 harm(0) where nobody has joy", x.harm(0), 0);
        due.is("20 harm(2) of nobody's", x.harm(2), NOT);
        for (int evening : NO_EVENINGS) {
            due.is("20 harm(" + evening + ")", x.harm(evening), BAD);
        }
    }

    private static void gain() {
        EveningAuction x = Due.withBids("0010;1020;0115;2330");
        x.value(0, 1, 50);
        x.value(0, 0, 99);
        x.value(1, 0, 3);
        due.is("21 gain(0)", x.gain(0), 30);
        due.is("21 gain(1) below 0", x.gain(1), -12);
        due.is("21 gain(3)", x.gain(3), -30);
        due.is("21 gain(2)", x.gain(2), 0);
        x.set(1, 1);
        due.is("21 gain(0) by law 1", x.gain(0), 50);
        due.is("21 gain(1) by law 1", x.gain(1), -7);
        for (int bidder : NO_BIDDERS) {
            due.is("21 gain(" + bidder + ")", x.gain(bidder), -10002);
        }
    }

    private static void without() {
        EveningAuction x = Due.withBids("0010;0112;0013;1090;1120");
        due.is("22 owner(0)", x.owner(0), 0);
        due.is("22 owner(1)", x.owner(1), 1);
        due.is("22 without(0, 0)", x.without(0, 0), 0);
        due.is("22 without(1, 0): the leader may not bid again, nor then pay", x.without(1, 0), 0);
        due.is("22 without(1, 1): its purse then is enough", x.without(1, 1), 0);
        due.is("22 without(2, 0)", x.without(2, 0), 1);
        due.is("22 without(2, 1)", x.without(2, 1), 0);
        due.is("22 without(4, 1)", x.without(4, 1), NONE);
        due.is("22 without(3, 1)", x.without(3, 1), 1);
        due.is("22 without(0, 9)", x.without(0, 9), NONE);
        due.is("22 nothing has changed: owner(1)", x.owner(1), 1);
        due.is("22 nothing has changed: judged()", x.judged(), 3);
        for (int bid : new int[] {-1, 5, MIN, MAX}) {
            due.is("22 without(" + bid + ", 0)", x.without(bid, 0), BAD);
        }
        for (int evening : NO_EVENINGS) {
            due.is("22 without(0, " + evening + ")", x.without(0, evening), BAD);
        }
        x.type(';');
        due.is("22 without(0, 0) with a fault", x.without(0, 0), BAD);
    }
}
