/** The bounds of promises 23 to 33, sentence by sentence. */
final class ClubBounds {
    private static final int[] NO_BIDDERS = {-2, -1, 5, 6, Bounds.MIN, Bounds.MAX};
    private static final int[] NO_EVENINGS = {-2, -1, 10, 11, Bounds.MIN, Bounds.MAX};
    private static final int[] NO_SHEETS = {-2, -1, 4, 5, Bounds.MIN, Bounds.MAX};

    private final Bounds b;

    ClubBounds(Bounds b) {
        this.b = b;
    }

    void all() {
        meet();
        each();
        pays();
        club();
        share();
        rather();
        seen();
        forget();
        owners();
        worth();
        swap();
    }

    private void meet() {
        b.of(23, "MEET: the least (what = 0), EVENINGS as bits (1);");
        EveningAuction x = Due.withBids("0001;9499");
        b.is("meet(1, 1, 0)", x.meet(1, 1, 0), 0);
        b.is("meet(1, 1, 1)", x.meet(1, 1, 1), 1);
        b.is("meet(16, 1, 0)", x.meet(16, 1, 0), 0);
        b.is("meet(16, 1, 1)", x.meet(16, 1, 1), 512);
        b.is("meet(31, 4, 0)", x.meet(31, 4, 0), 2);
        b.is("meet(31, 4, 1)", x.meet(31, 4, 1), 512 + 1 + 2 + 4);
        b.of(23, "NONE.");
        for (int evening = 0; evening < 10; evening++) {
            x.busy(2, evening, 1);
        }
        b.is("meet(4, 1, 0) of one that is always busy", x.meet(4, 1, 0), Bounds.NONE);
        b.is("meet(31, 1, 1) with one that is always busy", x.meet(31, 1, 1), Bounds.NONE);
        b.is("meet(27, 4, 0) without it", x.meet(27, 4, 0), 2);
        for (int left = 1; left <= 4; left++) {
            x.busy(2, 10 - left, 0);
            b.is("meet(4, " + left + ", 0) with just so many", x.meet(4, left, 0), 99 + 1 + left - 1);
            b.is("meet(4, " + left + ", 1) with just so many", x.meet(4, left, 1), 1024 - (1 << (10 - left)));
            if (left < 4) {
                b.is("meet(4, " + (left + 1) + ", 0) with one less", x.meet(4, left + 1, 0), Bounds.NONE);
                b.is("meet(4, " + (left + 1) + ", 1) with one less", x.meet(4, left + 1, 1), Bounds.NONE);
            }
        }
        b.of(23, "BAD.");
        int[][] wrong = {{0, 1, 0}, {-1, 1, 0}, {32, 1, 0}, {63, 1, 0}, {1, 0, 0}, {1, -1, 0}, {1, 5, 0}, {1, 1, -1},
            {1, 1, 2}, {31, 5, 1}, {Bounds.MIN, 1, 0}, {Bounds.MAX, 1, 0}, {1, Bounds.MIN, 0}, {1, Bounds.MAX, 0},
            {1, 1, Bounds.MIN}, {1, 1, Bounds.MAX}};
        for (int[] w : wrong) {
            b.refused("meet(" + w[0] + ", " + w[1] + ", " + w[2] + ")", y -> y.meet(w[0], w[1], w[2]), Bounds.BAD);
        }
    }

    private void each() {
        b.of(24, "ONE EACH: all VALUES (bidder = NONE), the EVENING of a BIDDER (NONE: none).");
        EveningAuction x = new EveningAuction();
        b.is("each(NONE) of nothing", x.each(Bounds.NONE), 0);
        for (int bidder = 0; bidder < 5; bidder++) {
            b.is("each(" + bidder + ") of nothing", x.each(bidder), Bounds.NONE);
        }
        x.value(0, 9, 1);
        x.value(4, 0, 99);
        b.is("each(NONE)", x.each(Bounds.NONE), 100);
        b.is("each(0)", x.each(0), 9);
        b.is("each(4)", x.each(4), 0);
        b.is("each(2)", x.each(2), Bounds.NONE);
        b.of(24, "BAD.");
        for (int bidder : new int[] {-3, -2, 5, 6, Bounds.MIN, Bounds.MAX}) {
            b.refused("each(" + bidder + ")", y -> y.each(bidder), Bounds.BAD);
        }
    }

    private void pays() {
        b.of(25, "PAYS.");
        EveningAuction x = new EveningAuction();
        x.value(0, 9, 50);
        x.value(4, 9, 49);
        b.is("pays(0)", x.pays(0), 49);
        b.is("pays(4)", x.pays(4), 0);
        x.value(4, 9, 51);
        b.is("pays(0)", x.pays(0), 0);
        b.is("pays(4)", x.pays(4), 50);
        b.of(25, "BAD.");
        for (int bidder : NO_BIDDERS) {
            b.refused("pays(" + bidder + ")", y -> y.pays(bidder), Bounds.BAD);
        }
    }

    private void club() {
        b.of(26, "CLUB of a set (bits, 0 to 31).");
        EveningAuction x = new EveningAuction();
        for (int bidder = 0; bidder < 5; bidder++) {
            x.value(bidder, 2 * bidder, 1 << bidder);
        }
        for (int set = 0; set <= 31; set++) {
            b.is("club(" + set + ")", x.club(set), set);
        }
        b.of(26, "BAD.");
        for (int set : new int[] {-2, -1, 32, 33, 63, Bounds.MIN, Bounds.MAX}) {
            b.refused("club(" + set + ")", y -> y.club(set), Bounds.BAD);
        }
    }

    private void share() {
        b.of(27, "SHARE: above, below.");
        EveningAuction x = new EveningAuction();
        x.value(0, 0, 3);
        x.value(4, 0, 1);
        b.is("share(0, 0)", x.share(0, 0), 5);
        b.is("share(0, 1)", x.share(0, 1), 2);
        b.is("share(4, 0)", x.share(4, 0), 1);
        b.is("share(4, 1)", x.share(4, 1), 2);
        b.is("share(2, 0)", x.share(2, 0), 0);
        b.is("share(2, 1)", x.share(2, 1), 1);
        b.of(27, "BAD. (As the least long.)");
        for (int bidder : NO_BIDDERS) {
            b.refused("share(" + bidder + ", 0)", y -> y.share(bidder, 0), Long.MIN_VALUE + 2);
            b.refused("share(" + bidder + ", 1)", y -> y.share(bidder, 1), Long.MIN_VALUE + 2);
        }
        for (int what : new int[] {-1, 2, Bounds.MIN, Bounds.MAX}) {
            b.refused("share(0, " + what + ")", y -> y.share(0, what), Long.MIN_VALUE + 2);
        }
    }

    private void rather() {
        b.of(28, "RATHER, as bits;");
        EveningAuction x = Bounds.withSheet(2, 5);
        x.value(4, 9, 1);
        b.is("rather(0) of the last", x.rather(0), 16);
        x.value(0, 0, 1);
        b.is("rather(0) of the first", x.rather(0), 1);
        for (int bidder = 0; bidder < 5; bidder++) {
            x.lay(0, 2, bidder, bidder == 0 || bidder == 4 ? 1 : 0);
        }
        b.of(28, "NONE.");
        b.is("rather(0) of just enough", x.rather(0), Bounds.NONE);
        b.is("rather(0) of nothing", Bounds.withSheet(0, 5).rather(0), Bounds.NONE);
        b.of(28, "BAD;");
        for (int s : NO_SHEETS) {
            b.refused("rather(" + s + ")", y -> y.rather(s), Bounds.BAD);
        }
        b.of(28, "NULL;");
        for (int s = 0; s < 4; s++) {
            int which = s;
            b.found("at first", EveningAuction::new, "rather(" + s + ")", y -> y.rather(which), Bounds.NULL);
        }
        b.found("with all", Bounds::withAll, "rather(3)", y -> y.rather(3), Bounds.NULL);
        b.of(28, "NOT.");
        b.refusedIn("of four", () -> Bounds.withSheet(2, 4), "rather(0)", y -> y.rather(0), Bounds.NOT);
        b.refusedIn("of none", () -> Bounds.withSheet(0, 0), "rather(0)", y -> y.rather(0), Bounds.NOT);
        b.is("rather(0) of five", Bounds.withSheet(1, 5).rather(0), Bounds.NONE);
    }

    private void seen() {
        b.of(29, "SEEN more: how many.");
        EveningAuction x = new EveningAuction();
        b.is("seen(0, 0)", x.seen(0, 0), 1);
        b.is("seen(9, 4)", x.seen(9, 4), 2);
        b.is("seen(9, 4) again", x.seen(9, 4), 3);
        b.is("seen(9, 3) with another", x.seen(9, 3), 4);
        for (int n = 5; n <= 8; n++) {
            b.is("seen(0, 0) as the " + n + "th", x.seen(0, 0), n);
        }
        b.of(29, "BAD;");
        int[][] wrong = {{-1, 0}, {10, 0}, {0, -1}, {0, 5}, {Bounds.MIN, 0}, {Bounds.MAX, 0}, {0, Bounds.MIN},
            {0, Bounds.MAX}};
        for (int[] w : wrong) {
            b.refused("seen(" + w[0] + ", " + w[1] + ")", y -> y.seen(w[0], w[1]), Bounds.BAD);
            b.refusedIn("when full", Bounds::withEightSeen, "seen(" + w[0] + ", " + w[1] + ")",
                y -> y.seen(w[0], w[1]), Bounds.BAD);
        }
        b.of(29, "FULL.");
        b.refusedIn("with eight", Bounds::withEightSeen, "seen(9, 4)", y -> y.seen(9, 4), Bounds.FULL);
        b.refusedIn("with eight", Bounds::withEightSeen, "seen(0, 0) again", y -> y.seen(0, 0), Bounds.FULL);
        b.refusedIn("with eight", Bounds::withEightSeen, "seen(0, 1) with another", y -> y.seen(0, 1), Bounds.FULL);
        EveningAuction full = Bounds.withEightSeen();
        full.forget();
        b.is("seen(9, 4) when they are forgotten", full.seen(9, 4), 1);
    }

    private void forget() {
        b.of(30, "All SEEN are forgotten: how many.");
        EveningAuction x = new EveningAuction();
        b.is("forget() of none", x.forget(), 0);
        x.seen(9, 4);
        b.is("forget() of one", x.forget(), 1);
        b.is("forget() again", x.forget(), 0);
        b.is("owners(9)", x.owners(9), 0);
        EveningAuction full = Bounds.withEightSeen();
        full.seen(9, 4);
        b.is("forget() of eight", full.forget(), 8);
        b.is("count(5)", full.count(5), 0);
        b.is("owners(NONE)", full.owners(Bounds.NONE), 1);
        b.is("bids are left", full.count(0), 2);
    }

    private void owners() {
        b.of(31, "OWNERS: how many ways (evening = NONE), whose one can have been, as bits (0: it was not SEEN).");
        EveningAuction x = new EveningAuction();
        b.is("owners(NONE) of none", x.owners(Bounds.NONE), 1);
        b.is("owners(0) of none", x.owners(0), 0);
        b.is("owners(9) of none", x.owners(9), 0);
        x.seen(0, 0);
        x.seen(9, 4);
        b.is("owners(NONE)", x.owners(Bounds.NONE), 1);
        b.is("owners(0)", x.owners(0), 1);
        b.is("owners(9)", x.owners(9), 16);
        b.is("owners(1), which was not seen", x.owners(1), 0);
        b.is("owners(8), which was not seen", x.owners(8), 0);
        x.bidder(0, 1, 4);
        b.is("owners(NONE) where one is nobody's", x.owners(Bounds.NONE), 0);
        b.is("owners(9) where another is nobody's", x.owners(9), 0);
        b.of(31, "BAD.");
        for (int evening : new int[] {-3, -2, 10, 11, Bounds.MIN, Bounds.MAX}) {
            b.refused("owners(" + evening + ")", y -> y.owners(evening), Bounds.BAD);
        }
    }

    private void worth() {
        b.of(32, "WORTH: above, below.");
        EveningAuction x = new EveningAuction();
        x.value(0, 0, 1);
        x.evening(0, 1, 15);
        x.value(4, 9, 99);
        b.is("worth(0, 0, 0)", x.worth(0, 0, 0), 1);
        b.is("worth(0, 0, 1)", x.worth(0, 0, 1), 16);
        b.is("worth(4, 9, 0)", x.worth(4, 9, 0), 99);
        b.is("worth(4, 9, 1)", x.worth(4, 9, 1), 1);
        b.of(32, "BAD. (As the least long.)");
        for (int bidder : NO_BIDDERS) {
            b.refused("worth(" + bidder + ", 0, 0)", y -> y.worth(bidder, 0, 0), Long.MIN_VALUE + 2);
        }
        for (int evening : NO_EVENINGS) {
            b.refused("worth(0, " + evening + ", 1)", y -> y.worth(0, evening, 1), Long.MIN_VALUE + 2);
        }
        for (int what : new int[] {-1, 2, Bounds.MIN, Bounds.MAX}) {
            b.refused("worth(0, 0, " + what + ")", y -> y.worth(0, 0, what), Long.MIN_VALUE + 2);
        }
    }

    private void swap() {
        b.of(33, "SWAP.");
        EveningAuction x = Due.withBids("0001;9401;5001");
        x.value(0, 9, 1);
        b.is("swap(0, 9) of one alone", x.swap(0, 9), 0);
        x.value(4, 0, 1);
        b.is("swap(0, 9) of both", x.swap(0, 9), 1);
        b.is("owner(0) behind that", x.owner(0), 0);
        b.of(33, "BAD: also one with itself;");
        for (int evening = 0; evening < 10; evening++) {
            int same = evening;
            b.refused("swap(" + evening + ", " + evening + ")", y -> y.swap(same, same), Bounds.BAD);
        }
        for (int evening : NO_EVENINGS) {
            b.refused("swap(" + evening + ", 0)", y -> y.swap(evening, 0), Bounds.BAD);
            b.refused("swap(0, " + evening + ")", y -> y.swap(0, evening), Bounds.BAD);
            b.refused("swap(" + evening + ", " + evening + ")", y -> y.swap(evening, evening), Bounds.BAD);
        }
        b.of(33, "NOT: nobody OWNS one, or one BIDDER both.");
        b.is("swap(0, 5) of one bidder", x.swap(0, 5), Bounds.NOT);
        b.is("swap(5, 9) of two", x.swap(5, 9), 0);
        b.refusedIn("with all", Bounds::withAll, "swap(0, 5)", y -> y.swap(0, 5), Bounds.NOT);
        b.refusedIn("with all", Bounds::withAll, "swap(5, 0)", y -> y.swap(5, 0), Bounds.NOT);
        b.refusedIn("with all", Bounds::withAll, "swap(5, 6)", y -> y.swap(5, 6), Bounds.NOT);
        b.refusedIn("of one bidder", () -> Due.withBids("0001;9001"), "swap(0, 9)", y -> y.swap(0, 9), Bounds.NOT);
    }
}
