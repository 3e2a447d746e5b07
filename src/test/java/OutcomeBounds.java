/** The bounds of promises 13 to 22, sentence by sentence. */
final class OutcomeBounds {
    private static final int[] NO_BIDDERS = {-2, -1, 5, 6, Bounds.MIN, Bounds.MAX};
    private static final int[] NO_EVENINGS = {-2, -1, 10, 11, Bounds.MIN, Bounds.MAX};

    private final Bounds b;

    OutcomeBounds(Bounds b) {
        this.b = b;
    }

    void all() {
        holds();
        judged();
        owner();
        price();
        has();
        happy();
        wet();
        harm();
        gain();
        without();
    }

    private void holds() {
        b.of(13, "Whether a BID HOLDS: 1, 0.");
        EveningAuction x = Bounds.withTwentyBids();
        b.is("holds(0)", x.holds(0), 1);
        b.is("holds(19)", x.holds(19), 1);
        x.evening(0, 0, 2);
        x.evening(9, 0, 3);
        b.is("holds(0) below the reserve", x.holds(0), 0);
        b.is("holds(19) below the reserve", x.holds(19), 0);
        b.is("holds(10) at the reserve", x.holds(10), 1);
        b.of(13, "BAD.");
        b.refusedIn("of none", EveningAuction::new, "holds(0)", y -> y.holds(0), Bounds.BAD);
        b.refusedIn("with a fault", Bounds::withFault, "holds(0)", y -> y.holds(0), Bounds.BAD);
        b.refusedIn("of four", Bounds::withAll, "holds(4)", y -> y.holds(4), Bounds.BAD);
        b.refusedIn("of twenty", Bounds::withTwentyBids, "holds(20)", y -> y.holds(20), Bounds.BAD);
        b.refusedIn("of twenty", Bounds::withTwentyBids, "holds(21)", y -> y.holds(21), Bounds.BAD);
        for (int wrong : new int[] {-1, Bounds.MIN, Bounds.MAX}) {
            b.refused("holds(" + wrong + ")", y -> y.holds(wrong), Bounds.BAD);
        }
    }

    private void judged() {
        b.of(14, "JUDGED;");
        EveningAuction x = Bounds.withTwentyBids();
        for (int bid = 19; bid >= 10; bid--) {
            x.bidder(1, 0, 2 * (bid - 10) + 1);
            b.is("judged() of bid " + bid, x.judged(), bid);
        }
        x.bidder(0, 0, 0);
        b.is("judged() of the first", x.judged(), 0);
        b.of(14, "NONE.");
        b.is("judged() of none", new EveningAuction().judged(), Bounds.NONE);
        b.is("judged() of twenty that hold", Bounds.withTwentyBids().judged(), Bounds.NONE);
        EveningAuction y = Due.withBids("0010;0010");
        b.is("judged() of the second", y.judged(), 1);
        y.type(';');
        b.is("judged() with a fault", y.judged(), Bounds.NONE);
    }

    private void owner() {
        b.of(15, "Who OWNS an EVENING;");
        EveningAuction x = Due.withBids("0001;9499");
        b.is("owner(0)", x.owner(0), 0);
        b.is("owner(9)", x.owner(9), 4);
        b.of(15, "NONE.");
        b.is("owner(1)", x.owner(1), Bounds.NONE);
        b.is("owner(8)", x.owner(8), Bounds.NONE);
        x.evening(0, 0, 2);
        b.is("owner(0) where no bid holds", x.owner(0), Bounds.NONE);
        x.type(';');
        b.is("owner(9) with a fault", x.owner(9), Bounds.NONE);
        b.of(15, "BAD.");
        for (int evening : NO_EVENINGS) {
            b.refused("owner(" + evening + ")", y -> y.owner(evening), Bounds.BAD);
        }
    }

    private void price() {
        b.of(16, "PRICE.");
        EveningAuction x = Due.withBids("0001;9499");
        b.is("price(0)", x.price(0), 1);
        b.is("price(9)", x.price(9), 99);
        x.set(1, 1);
        b.is("price(0) by law 1", x.price(0), 0);
        x.evening(9, 0, 99);
        b.is("price(9) by law 1", x.price(9), 99);
        b.of(16, "BAD;");
        for (int evening : NO_EVENINGS) {
            b.refused("price(" + evening + ")", y -> y.price(evening), Bounds.BAD);
        }
        b.of(16, "NOT: nobody OWNS it.");
        b.refusedIn("of none", EveningAuction::new, "price(0)", y -> y.price(0), Bounds.NOT);
        b.refusedIn("with all", Bounds::withAll, "price(8)", y -> y.price(8), Bounds.NOT);
        b.refusedIn("with a fault", Bounds::withFault, "price(0)", y -> y.price(0), Bounds.NOT);
        x.evening(0, 0, 2);
        b.is("price(0) where no bid holds", x.price(0), Bounds.NOT);
    }

    private void has() {
        b.of(17, "Of a BIDDER: EVENINGS as bits (what = 0), all AMOUNTS that lead (1), what is left of its PURSE"
            + " behind all PRICES (2).");
        EveningAuction x = Bounds.withTwentyBids();
        int[] one = {1023, 20, 80};
        int[] none = {0, 0, 100};
        for (int what = 0; what <= 2; what++) {
            b.is("has(1, " + what + ") of all", x.has(1, what), one[what]);
            b.is("has(0, " + what + ") of none", x.has(0, what), none[what]);
            b.is("has(4, " + what + ") of none", x.has(4, what), none[what]);
        }
        EveningAuction first = Due.withBids("0001");
        b.is("has(0, 0) of the first evening", first.has(0, 0), 1);
        EveningAuction last = Due.withBids("9499");
        b.is("has(4, 0) of the last evening", last.has(4, 0), 512);
        b.is("has(4, 1)", last.has(4, 1), 99);
        last.bidder(4, 0, 99);
        b.is("has(4, 2) where nothing is left", last.has(4, 2), 0);
        last.set(1, 1);
        b.is("has(4, 2) by law 1", last.has(4, 2), 99);
        b.is("has(4, 1) by law 1", last.has(4, 1), 99);
        last.bidder(4, 0, 98);
        b.is("has(4, 0) with a purse too small", last.has(4, 0), 0);
        b.of(17, "BAD.");
        for (int bidder : NO_BIDDERS) {
            b.refused("has(" + bidder + ", 0)", y -> y.has(bidder, 0), Bounds.BAD);
        }
        for (int what : new int[] {-1, 3, Bounds.MIN, Bounds.MAX}) {
            b.refused("has(0, " + what + ")", y -> y.has(0, what), Bounds.BAD);
        }
    }

    private void happy() {
        b.of(18, "HAPPY.");
        EveningAuction x = Due.withBids("0001;9401");
        b.is("happy(0)", x.happy(0), 9);
        b.is("happy(4)", x.happy(4), 9);
        b.is("happy(2)", x.happy(2), 0);
        b.is("happy(0) of none", new EveningAuction().happy(0), 0);
        b.of(18, "BAD.");
        for (int bidder : NO_BIDDERS) {
            b.refused("happy(" + bidder + ")", y -> y.happy(bidder), Bounds.BAD);
        }
    }

    private void wet() {
        b.of(19, "HAPPY by a SEED.");
        EveningAuction x = Due.withBids("0001;9401");
        x.evening(0, 1, 16);
        for (int seed : new int[] {0, 1, -1, Bounds.MIN, Bounds.MAX}) {
            b.is("wet(0, " + seed + ") of one refused", x.wet(0, seed), 0);
            b.is("wet(4, " + seed + ") of one not refused", x.wet(4, seed), 9);
            b.is("wet(0, " + seed + ") again", x.wet(0, seed), 0);
        }
        b.of(19, "BAD.");
        for (int bidder : NO_BIDDERS) {
            b.refused("wet(" + bidder + ", 0)", y -> y.wet(bidder, 0), Bounds.BAD);
            b.refused("wet(" + bidder + ", -1)", y -> y.wet(bidder, -1), Bounds.BAD);
        }
    }

    private void harm() {
        b.of(20, "HARM.");
        EveningAuction x = Due.withBids("0001;9401");
        x.joy(1, 4, 1);
        b.is("harm(0)", x.harm(0), 1);
        b.is("harm(9)", x.harm(9), 0);
        b.of(20, "BAD;");
        for (int evening : NO_EVENINGS) {
            b.refused("harm(" + evening + ")", y -> y.harm(evening), Bounds.BAD);
        }
        b.of(20, "NOT: nobody OWNS it.");
        b.refusedIn("of none", EveningAuction::new, "harm(0)", y -> y.harm(0), Bounds.NOT);
        b.refusedIn("with all", Bounds::withAll, "harm(8)", y -> y.harm(8), Bounds.NOT);
        b.refusedIn("with a fault", Bounds::withFault, "harm(0)", y -> y.harm(0), Bounds.NOT);
    }

    private void gain() {
        b.of(21, "GAIN, as any number.");
        EveningAuction x = Due.withBids("0002;9499");
        x.value(0, 0, 3);
        x.value(4, 9, 98);
        b.is("gain(0)", x.gain(0), 1);
        b.is("gain(4)", x.gain(4), -1);
        b.is("gain(3) of none", x.gain(3), 0);
        x.value(4, 9, 97);
        b.is("gain(4) that is the number of BAD", x.gain(4), -2);
        b.of(21, "BAD: -10002.");
        for (int bidder : NO_BIDDERS) {
            b.refused("gain(" + bidder + ")", y -> y.gain(bidder), -10002);
        }
    }

    private void without() {
        b.of(22, "WITHOUT a BID;");
        EveningAuction x = Bounds.withTwentyBids();
        b.is("without(10, 0)", x.without(10, 0), 0);
        b.is("without(0, 0)", x.without(0, 0), 1);
        b.is("without(19, 9)", x.without(19, 9), 0);
        b.is("without(19, 0)", x.without(19, 0), 1);
        b.is("owner(9) behind that", x.owner(9), 1);
        b.is("count(0) behind that", x.count(0), 20);
        b.of(22, "NONE.");
        EveningAuction y = Due.withBids("0001;9499");
        b.is("without(0, 0) of one", y.without(0, 0), Bounds.NONE);
        b.is("without(1, 9) of one", y.without(1, 9), Bounds.NONE);
        b.is("without(0, 5) of nobody's", y.without(0, 5), Bounds.NONE);
        b.of(22, "BAD.");
        b.refusedIn("of none", EveningAuction::new, "without(0, 0)", z -> z.without(0, 0), Bounds.BAD);
        b.refusedIn("with a fault", Bounds::withFault, "without(0, 0)", z -> z.without(0, 0), Bounds.BAD);
        b.refusedIn("of four", Bounds::withAll, "without(4, 0)", z -> z.without(4, 0), Bounds.BAD);
        b.refusedIn("of twenty", Bounds::withTwentyBids, "without(20, 0)", z -> z.without(20, 0), Bounds.BAD);
        for (int wrong : new int[] {-1, Bounds.MIN, Bounds.MAX}) {
            b.refused("without(" + wrong + ", 0)", z -> z.without(wrong, 0), Bounds.BAD);
        }
        for (int evening : NO_EVENINGS) {
            b.refused("without(0, " + evening + ")", z -> z.without(0, evening), Bounds.BAD);
        }
    }
}
