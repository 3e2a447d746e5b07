import java.util.function.Supplier;

/** The bounds that the terms name from HAPPY on, sentence by sentence, and the refusals. */
final class MoreTermBounds {
    private final Bounds b;

    MoreTermBounds(Bounds b) {
        this.b = b;
    }

    void all() {
        happy();
        harm();
        gain();
        without();
        busy();
        meet();
        meetBought();
        meetLikeOnes();
        oneEach();
        oneEachLikeOnes();
        pays();
        club();
        share();
        rather();
        seen();
        ownersAndMost();
        ownersOfTwo();
        worth();
        swap();
        orderOfRefusals();
        refusalsChangeNothing();
        refusalsAsNumbers();
    }

    // ---- what comes of it

    /** Ten evenings of one bidder. */
    private static EveningAuction ownerOfAll(int bidder, String amount) {
        StringBuilder text = new StringBuilder("0" + bidder + amount);
        for (int evening = 1; evening < 10; evening++) {
            text.append(";").append(evening).append(bidder).append(amount);
        }
        EveningAuction x = Due.withBids(text.toString());
        x.bidder(bidder, 0, 999);
        return x;
    }

    private void happy() {
        b.of(0, "HAPPY of a BIDDER: JOY of PROGRAMMES of all EVENINGS that somebody OWNS, together;");
        b.is("happy(0) where nobody owns any", new EveningAuction().happy(0), 0);
        b.is("happy(0) of one", Due.withBids("9001").happy(0), 9);
        EveningAuction x = ownerOfAll(2, "01");
        b.is("happy(2) of all ten", x.happy(2), 90);
        b.is("happy(3) of all ten", x.happy(3), 0);
        x.joy(3, 2, 1);
        b.is("happy(3) of all ten with joy of 1", x.happy(3), 10);
        b.of(0, "by a SEED those that are refused left out.");
        b.is("wet(2, 7) without clouds", x.wet(2, 7), 90);
        for (int evening = 0; evening < 10; evening++) {
            x.evening(evening, 1, 16);
            b.is("wet(2, 7) with so many refused", x.wet(2, 7), 90 - 9 * (evening + 1));
        }
        b.is("happy(2) still", x.happy(2), 90);
        b.is("wet(0, 7) where nobody owns any", new EveningAuction().wet(0, 7), 0);
    }

    private void harm() {
        b.of(0, "HARM of an EVENING that somebody OWNS: the most JOY, of all BIDDERS together, of any PROGRAMME, less"
            + " that of the PROGRAMME of who OWNS it.");
        EveningAuction x = Due.withBids("0001");
        b.is("harm(0) of like joys", x.harm(0), 0);
        x.joy(0, 4, 1);
        b.is("harm(0) of one more", x.harm(0), 1);
        x.joy(4, 4, 8);
        b.is("harm(0) of like joys again", x.harm(0), 0);
        x.joy(4, 4, 7);
        b.is("harm(0) never below 0", x.harm(0), 0);
        for (int bidder = 0; bidder < 5; bidder++) {
            x.joy(bidder, 4, 9);
        }
        b.is("harm(0) of 45 less 9", x.harm(0), 36);
        x.joy(0, 0, 0);
        b.is("harm(0) at the most", x.harm(0), 45);
        x.bidder(0, 1, 4);
        b.is("harm(0) of the best", x.harm(0), 0);
        for (int bidder = 0; bidder < 5; bidder++) {
            x.joy(bidder, 0, 9);
            x.joy(bidder, 4, 8);
        }
        b.is("harm(0) where the first programme is the best", x.harm(0), 5);
        for (int bidder = 0; bidder < 5; bidder++) {
            for (int programme = 0; programme < 5; programme++) {
                x.joy(bidder, programme, 0);
            }
        }
        b.is("harm(0) where there is no joy", x.harm(0), 0);
    }

    private void gain() {
        b.of(0, "GAIN of a BIDDER: VALUES of EVENINGS that it OWNS less their PRICES.");
        EveningAuction x = ownerOfAll(3, "99");
        b.is("gain(3) at the least", x.gain(3), -990);
        b.is("gain(2) of one that owns none", x.gain(2), 0);
        for (int evening = 0; evening < 10; evening++) {
            x.value(3, evening, 99);
            x.value(2, evening, 99);
        }
        b.is("gain(3) of like values and prices", x.gain(3), 0);
        b.is("gain(2): values of what it does not own", x.gain(2), 0);
        x.value(3, 9, 98);
        b.is("gain(3) of one less", x.gain(3), -1);
        x.value(3, 9, 99);
        x.set(1, 1);
        b.is("gain(3) at the most", x.gain(3), 990);
    }

    private void without() {
        b.of(0, "WITHOUT a BID: who would OWN an EVENING, all others looked at anew; NONE.");
        EveningAuction x = Due.withBids("0010;0110;0211;1299");
        b.is("owner(0)", x.owner(0), 2);
        b.is("without(0, 0)", x.without(0, 0), 2);
        b.is("without(0, 0): the second holds then", Due.withBids("0010;0110").without(0, 0), 1);
        b.is("without(2, 0)", x.without(2, 0), 0);
        b.is("without(2, 1): its purse is enough then", x.without(2, 1), 2);
        b.is("owner(1)", x.owner(1), Bounds.NONE);
        b.is("without(3, 1)", x.without(3, 1), Bounds.NONE);
        EveningAuction one = Due.withBids("0001");
        b.is("without(0, 0) of one alone", one.without(0, 0), Bounds.NONE);
        EveningAuction twenty = Bounds.withTwentyBids();
        b.is("without(19, 9)", twenty.without(19, 9), 0);
        b.is("without(0, 9)", twenty.without(0, 9), 1);
        b.is("without(9, 9)", twenty.without(9, 9), 1);
    }

    // ---- clubs

    private void busy() {
        b.of(0, "BUSY (0, 1 of a BIDDER in an EVENING; 0 at first).");
        EveningAuction x = new EveningAuction();
        for (int bidder = 0; bidder < 5; bidder++) {
            for (int evening = 0; evening < 10; evening++) {
                b.is("busy at first", x.busy(bidder, evening, 1), 0);
                b.is("busy of 1", x.busy(bidder, evening, 0), 1);
                b.is("busy of 0", x.busy(bidder, evening, 0), 0);
            }
        }
        b.refused("busy(4, 9, -1)", y -> y.busy(4, 9, -1), Bounds.BAD);
        b.refused("busy(4, 9, 2)", y -> y.busy(4, 9, 2), Bounds.BAD);
    }

    private void meetIs(String asked, EveningAuction x, int bidders, int k, int cost, int evenings) {
        b.is("meet(" + bidders + ", " + k + ", 0) " + asked, x.meet(bidders, k, 0), cost);
        b.is("meet(" + bidders + ", " + k + ", 1) " + asked, x.meet(bidders, k, 1), evenings);
    }

    private void meet() {
        b.of(0, "MEET: a set of BIDDERS (bits, one at least) wants to be together in k (1 to 4) EVENINGS,");
        EveningAuction x = new EveningAuction();
        meetIs("of the least set", x, 1, 1, 1, 1);
        meetIs("of the greatest set", x, 31, 4, 4, 15);
        b.refused("meet(0, 1, 0)", y -> y.meet(0, 1, 0), Bounds.BAD);
        b.refused("meet(-1, 1, 0)", y -> y.meet(-1, 1, 0), Bounds.BAD);
        b.refused("meet(32, 1, 0)", y -> y.meet(32, 1, 0), Bounds.BAD);
        b.refused("meet(33, 1, 0)", y -> y.meet(33, 1, 0), Bounds.BAD);
        b.refused("meet(1, 0, 0)", y -> y.meet(1, 0, 0), Bounds.BAD);
        b.refused("meet(1, 5, 0)", y -> y.meet(1, 5, 0), Bounds.BAD);
        b.of(0, "of which none of them is BUSY in any,");
        x.busy(4, 0, 1);
        meetIs("with one busy", x, 31, 1, 1, 2);
        meetIs("with another busy", x, 15, 1, 1, 1);
        for (int evening = 0; evening < 9; evening++) {
            x.busy(evening % 5, evening, 1);
        }
        meetIs("with one evening left", x, 31, 1, 1, 512);
        meetIs("with one evening left for two", x, 31, 2, Bounds.NONE, Bounds.NONE);
        EveningAuction owned = Due.withBids("0001;1101");
        owned.busy(0, 0, 1);
        meetIs("with its owner busy", owned, 3, 1, 0, 2);
        b.of(0, "and each of which one of them OWNS,");
        meetIs("in evenings of both", Due.withBids("3001;9101"), 3, 2, 0, 520);
        meetIs("in evenings of one of both", Due.withBids("3001;9101"), 1, 2, 1, 9);
    }

    private void meetBought() {
        b.of(0, "or it is bought: for the AMOUNT that leads there, and STEP,");
        EveningAuction x = ownerOfAll(1, "99");
        x.set(0, 20);
        meetIs("of all at the most", x, 1, 4, 4 * 119, 15);
        x.set(0, 1);
        meetIs("of all with the least step", x, 1, 1, 100, 1);
        EveningAuction y = ownerOfAll(1, "01");
        meetIs("of all at the least", y, 1, 4, 8, 15);
        b.of(0, "or the RESERVE, if nobody leads (1 at least):");
        int[] reserves = {0, 1, 2, 99};
        int[] costs = {1, 1, 2, 99};
        for (int i = 0; i < reserves.length; i++) {
            EveningAuction z = new EveningAuction();
            for (int evening = 0; evening < 10; evening++) {
                z.evening(evening, 0, reserves[i]);
            }
            meetIs("with reserves of " + reserves[i], z, 16, 1, costs[i], 1);
            meetIs("with reserves of " + reserves[i], z, 16, 4, 4 * costs[i], 15);
        }
        EveningAuction led = Due.withBids("0050");
        for (int evening = 0; evening < 10; evening++) {
            led.evening(evening, 0, evening == 0 ? 50 : 99);
        }
        meetIs("of what leads, not the reserve", led, 2, 1, 51, 1);
    }

    private void meetLikeOnes() {
        b.of(0, "the least that it costs; these EVENINGS (of like ones the least bits); NONE.");
        EveningAuction x = new EveningAuction();
        for (int evening = 0; evening < 10; evening++) {
            x.evening(evening, 0, 5);
        }
        meetIs("of ten like ones", x, 1, 3, 15, 7);
        x.evening(9, 0, 4);
        meetIs("with one less", x, 1, 3, 14, 512 + 3);
        x.evening(0, 0, 6);
        meetIs("with one more", x, 1, 3, 14, 512 + 6);
        x.evening(8, 0, 4);
        meetIs("of two like ones", x, 1, 1, 4, 256);
        meetIs("of both", x, 1, 2, 8, 768);
        for (int evening = 0; evening < 7; evening++) {
            x.busy(0, evening, 1);
        }
        meetIs("of three that are left", x, 1, 3, 13, 128 + 256 + 512);
        meetIs("of one too many", x, 1, 4, Bounds.NONE, Bounds.NONE);
        meetIs("of another", x, 2, 4, 18, 512 + 256 + 2 + 4);
    }

    private void eachIs(String asked, EveningAuction x, int total, int... row) {
        b.is("each(NONE) " + asked, x.each(Bounds.NONE), total);
        for (int bidder = 0; bidder < 5; bidder++) {
            b.is("each(" + bidder + ") " + asked, x.each(bidder), row[bidder]);
        }
    }

    private static EveningAuction allValues(int v) {
        EveningAuction x = new EveningAuction();
        for (int bidder = 0; bidder < 5; bidder++) {
            for (int evening = 0; evening < 10; evening++) {
                x.value(bidder, evening, v);
            }
        }
        return x;
    }

    private void oneEach() {
        b.of(0, "ONE EACH: each BIDDER has one EVENING at most, nobody's two:");
        EveningAuction x = new EveningAuction();
        for (int evening = 0; evening < 10; evening++) {
            x.value(0, evening, 50);
        }
        eachIs("of one that would have all", x, 50, 0, -1, -1, -1, -1);
        EveningAuction y = new EveningAuction();
        for (int bidder = 0; bidder < 5; bidder++) {
            y.value(bidder, 9, 50);
        }
        eachIs("of one that all would have", y, 50, -1, -1, -1, -1, 9);
        b.of(0, "the most that all VALUES are together;");
        eachIs("of nothing", new EveningAuction(), 0, -1, -1, -1, -1, -1);
        eachIs("of all that can be", allValues(99), 495, 0, 1, 2, 3, 4);
        EveningAuction z = new EveningAuction();
        z.value(0, 0, 60);
        z.value(0, 1, 50);
        z.value(1, 0, 55);
        eachIs("of two together, not the first alone", z, 105, 1, 0, -1, -1, -1);
        z.value(1, 0, 9);
        eachIs("when the other is just not enough", z, 60, 0, -1, -1, -1, -1);
        z.value(1, 0, 11);
        eachIs("when the other is just enough", z, 61, 1, 0, -1, -1, -1);
    }

    private void oneEachLikeOnes() {
        b.of(0, "of like ones the least row (by BIDDERS; none is ahead of EVENING 0): whose;");
        EveningAuction x = new EveningAuction();
        x.value(0, 0, 60);
        x.value(0, 1, 50);
        x.value(1, 0, 10);
        eachIs("of like ones: 0 is ahead of 1", x, 60, 0, -1, -1, -1, -1);
        EveningAuction y = new EveningAuction();
        y.value(3, 0, 7);
        y.value(4, 0, 7);
        eachIs("of like ones: none is ahead of 0", y, 7, -1, -1, -1, -1, 0);
        y.value(3, 9, 7);
        eachIs("of both", y, 14, -1, -1, -1, 9, 0);
        y.value(4, 9, 7);
        eachIs("of both in both", y, 14, -1, -1, -1, 0, 9);
        eachIs("of like ones with values of 1", allValues(1), 5, 0, 1, 2, 3, 4);
        eachIs("none, where all is 0", allValues(0), 0, -1, -1, -1, -1, -1);
        EveningAuction z = allValues(1);
        z.value(0, 0, 0);
        eachIs("of the least row that has the most", z, 5, 1, 0, 2, 3, 4);
    }

    private void pays() {
        b.of(0, "PAYS: what the others would have more, together, were one not there.");
        EveningAuction x = new EveningAuction();
        b.is("pays(0) of nothing", x.pays(0), 0);
        x.value(0, 0, 99);
        b.is("pays(0) alone", x.pays(0), 0);
        x.value(4, 0, 1);
        b.is("pays(0) by the least", x.pays(0), 1);
        x.value(4, 0, 98);
        b.is("pays(0) by one less", x.pays(0), 98);
        b.is("pays(4) of none", x.pays(4), 0);
        x.value(4, 0, 99);
        b.is("pays(0) of none, by a like one", x.pays(0), 0);
        b.is("pays(4), by a like one", x.pays(4), 99);
        EveningAuction all = allValues(99);
        for (int bidder = 0; bidder < 5; bidder++) {
            b.is("pays(" + bidder + ") where there is enough for all", all.pays(bidder), 0);
        }
        EveningAuction few = new EveningAuction();
        for (int bidder = 0; bidder < 5; bidder++) {
            for (int evening = 0; evening < 4; evening++) {
                few.value(bidder, evening, 10 + bidder);
            }
        }
        b.is("pays(0) of the one that has none", few.pays(0), 0);
        for (int bidder = 1; bidder < 5; bidder++) {
            b.is("pays(" + bidder + ") where one has none", few.pays(bidder), 10);
        }
    }

    private void club() {
        b.of(0, "CLUB of a set: for each EVENING the greatest VALUE of its BIDDERS less the RESERVE, if that is above"
            + " 0, together (0 of none).");
        EveningAuction x = new EveningAuction();
        x.value(0, 0, 50);
        x.value(4, 0, 51);
        x.value(4, 9, 2);
        int[] reserves = {0, 49, 50, 51, 52, 99};
        int[] ofFirst = {50, 1, 0, 0, 0, 0};
        int[] ofLast = {53, 4, 3, 2, 2, 2};
        for (int i = 0; i < reserves.length; i++) {
            x.evening(0, 0, reserves[i]);
            b.is("club(1) with a reserve of " + reserves[i], x.club(1), ofFirst[i]);
            b.is("club(16) with a reserve of " + reserves[i], x.club(16), ofLast[i]);
            b.is("club(17) with a reserve of " + reserves[i], x.club(17), ofLast[i]);
            b.is("club(14) with a reserve of " + reserves[i], x.club(14), 0);
            b.is("club(0) with a reserve of " + reserves[i], x.club(0), 0);
        }
        b.is("club(31) at the most", allValues(99).club(31), 990);
        b.is("club(0) of none", allValues(99).club(0), 0);
        b.is("club(31) of nothing", new EveningAuction().club(31), 0);
    }

    private void shareIs(EveningAuction x, int bidder, long above, long below) {
        b.is("share(" + bidder + ", 0)", x.share(bidder, 0), above);
        b.is("share(" + bidder + ", 1)", x.share(bidder, 1), below);
    }

    private void share() {
        b.of(0, "SHARE: what a BIDDER brings to the CLUB, on the mean over all orders in which the five come: a"
            + " FRACTION.");
        shareIs(new EveningAuction(), 4, 0, 1);
        shareIs(allValues(99), 4, 198, 1);
        EveningAuction x = new EveningAuction();
        x.value(4, 9, 99);
        shareIs(x, 4, 99, 1);
        shareIs(x, 0, 0, 1);
        x.value(0, 9, 98);
        shareIs(x, 0, 49, 1);
        shareIs(x, 4, 50, 1);
        x.value(1, 9, 1);
        shareIs(x, 1, 1, 3);
        // 1 is shared by three, 97 more by two, 1 more is of the last alone.
        shareIs(x, 0, 293, 6);
        shareIs(x, 4, 299, 6);
        EveningAuction y = new EveningAuction();
        for (int bidder = 0; bidder < 5; bidder++) {
            y.value(bidder, 0, bidder + 1);
        }
        // Steps of 1 are shared by 5, 4, 3, 2 and 1 of them.
        shareIs(y, 0, 1, 5);
        shareIs(y, 1, 9, 20);
        shareIs(y, 2, 47, 60);
        shareIs(y, 3, 77, 60);
        shareIs(y, 4, 137, 60);
        y.evening(0, 0, 5);
        shareIs(y, 4, 0, 1);
        y.evening(0, 0, 4);
        shareIs(y, 4, 1, 1);
        shareIs(y, 3, 0, 1);
    }

    private void rather() {
        b.of(0, "RATHER: of a SHEET of what each gets (BIDDERS 0 on, as ints): the least set, as bits, that gets less,"
            + " together, than its CLUB; NONE;");
        EveningAuction x = new EveningAuction();
        for (int bidder = 0; bidder < 5; bidder++) {
            x.value(bidder, bidder, 10);
        }
        Due.ints(x, 0, 10, 10, 10, 10, 10);
        b.is("rather(0) where each gets just as much", x.rather(0), Bounds.NONE);
        for (int bidder = 0; bidder < 5; bidder++) {
            x.lay(0, 2, bidder, 9);
            b.is("rather(0) where one gets one less", x.rather(0), 1 << bidder);
            x.lay(0, 2, bidder, 11);
            b.is("rather(0) where one gets one more", x.rather(0), Bounds.NONE);
            x.lay(0, 2, bidder, 10);
        }
        x.lay(0, 2, 4, 9);
        x.lay(0, 2, 2, 9);
        b.is("rather(0): the least of two", x.rather(0), 4);
        EveningAuction y = new EveningAuction();
        Due.ints(y, 0, 0, 0, 0, 0, 0);
        b.is("rather(0) where clubs are worth nothing", y.rather(0), Bounds.NONE);
        y.lay(0, 2, 4, -1);
        b.is("rather(0) of one below 0", y.rather(0), 16);
        y.lay(0, 2, 4, Bounds.MAX);
        b.is("rather(0) of the greatest int", y.rather(0), Bounds.NONE);
        y.lay(0, 2, 0, Bounds.MIN);
        b.is("rather(0) of the least int", y.rather(0), 1);
        b.of(0, "NOT: fewer than five items.");
        for (int form = 0; form < 3; form++) {
            int of = form;
            for (int n = 0; n <= 4; n++) {
                int items = n;
                b.refusedIn("with " + n + " of form " + form, () -> Bounds.withSheet(of, items), "rather(0)",
                    z -> z.rather(0), Bounds.NOT);
            }
            b.is("rather(0) of five", Bounds.withSheet(form, 5).rather(0), Bounds.NONE);
            b.is("rather(0) of six", Bounds.withSheet(form, 6).rather(0), Bounds.NONE);
            b.is("rather(0) of sixty", Bounds.withSheet(form, 60).rather(0), Bounds.NONE);
        }
    }

    // ---- seen, weather, swaps

    private void seen() {
        b.of(0, "SEEN, 8 at most: in an EVENING there was a PROGRAMME:");
        EveningAuction x = new EveningAuction();
        for (int n = 1; n <= 7; n++) {
            b.is("seen more", x.seen(n, 0), n);
        }
        b.is("the eighth", x.seen(8, 4), 8);
        b.is("the ninth", x.seen(9, 4), Bounds.FULL);
        b.is("owners(8)", x.owners(8), 16);
        b.is("owners(9)", x.owners(9), 0);
        b.is("count(5)", x.count(5), 8);
        for (int programme = 0; programme < 5; programme++) {
            EveningAuction y = new EveningAuction();
            b.is("seen(9, " + programme + ")", y.seen(9, programme), 1);
            b.is("owners(9)", y.owners(9), 1 << programme);
        }
        b.refused("seen(9, -1)", y -> y.seen(9, -1), Bounds.BAD);
        b.refused("seen(9, 5)", y -> y.seen(9, 5), Bounds.BAD);
    }

    /** So many bidders, from 0 on, have programme 4, and evenings from 0 on were seen with it. */
    private static EveningAuction dealt(int bidders, int evenings, int most) {
        EveningAuction x = new EveningAuction();
        for (int bidder = 0; bidder < 5; bidder++) {
            x.bidder(bidder, 1, bidder < bidders ? 4 : 0);
        }
        for (int evening = 0; evening < evenings; evening++) {
            x.seen(evening, 4);
        }
        x.set(2, most);
        return x;
    }

    private void ownersAndMost() {
        b.of(0, "OWNERS: in how many ways all EVENINGS that were SEEN can each have been of a BIDDER with such a"
            + " PROGRAMME,");
        b.is("owners(NONE) where none was seen", new EveningAuction().owners(Bounds.NONE), 1);
        b.is("owners(NONE) of five and eight", dealt(5, 8, 10).owners(Bounds.NONE), 390625);
        b.is("owners(NONE) of one and eight", dealt(1, 8, 10).owners(Bounds.NONE), 1);
        b.is("owners(NONE) of nobody and one", dealt(0, 1, 10).owners(Bounds.NONE), 0);
        b.is("owners(NONE) of nobody and none", dealt(0, 0, 10).owners(Bounds.NONE), 1);
        EveningAuction once = dealt(2, 2, 10);
        b.is("owners(NONE) of two and two", once.owners(Bounds.NONE), 4);
        once.bidder(0, 1, 0);
        b.is("owners(NONE) of one and two", once.owners(Bounds.NONE), 1);
        once.bidder(1, 1, 0);
        b.is("owners(NONE) of nobody and two", once.owners(Bounds.NONE), 0);
        b.of(0, "none with more than MOST (1 to 10; 10 at first) of these: how many");
        EveningAuction x = new EveningAuction();
        b.is("most at first", x.set(2, 1), 10);
        b.is("most of 1", x.set(2, 10), 1);
        b.is("most of 10", x.set(2, 9), 10);
        b.is("most of 9", x.set(2, 2), 9);
        b.refused("set(2, 0)", y -> y.set(2, 0), Bounds.BAD);
        b.refused("set(2, 11)", y -> y.set(2, 11), Bounds.BAD);
        b.is("one and two with most 1", dealt(1, 2, 1).owners(Bounds.NONE), 0);
        b.is("one and two with most 2", dealt(1, 2, 2).owners(Bounds.NONE), 1);
        b.is("one and two with most 3", dealt(1, 2, 3).owners(Bounds.NONE), 1);
        b.is("one and eight with most 7", dealt(1, 8, 7).owners(Bounds.NONE), 0);
        b.is("one and eight with most 8", dealt(1, 8, 8).owners(Bounds.NONE), 1);
        b.is("two and eight with most 3", dealt(2, 8, 3).owners(Bounds.NONE), 0);
        b.is("two and eight with most 4", dealt(2, 8, 4).owners(Bounds.NONE), 70);
        b.is("two and eight with most 7", dealt(2, 8, 7).owners(Bounds.NONE), 254);
        b.is("two and eight with most 8", dealt(2, 8, 8).owners(Bounds.NONE), 256);
        b.is("five and five with most 1", dealt(5, 5, 1).owners(Bounds.NONE), 120);
        b.is("five and six with most 1", dealt(5, 6, 1).owners(Bounds.NONE), 0);
        b.is("five and four with most 1", dealt(5, 4, 1).owners(Bounds.NONE), 120);
    }

    private void ownersOfTwo() {
        b.of(0, "(0, if one was SEEN with two);");
        EveningAuction x = new EveningAuction();
        x.seen(0, 0);
        b.is("owners(NONE) of one with one", x.owners(Bounds.NONE), 1);
        x.seen(0, 0);
        b.is("owners(NONE) of one with the same again", x.owners(Bounds.NONE), 1);
        x.seen(0, 1);
        b.is("owners(NONE) of one with two", x.owners(Bounds.NONE), 0);
        x.seen(0, 0);
        b.is("owners(NONE) of one with the first of two again", x.owners(Bounds.NONE), 0);
        x.forget();
        x.seen(0, 1);
        b.is("owners(NONE) when they are forgotten", x.owners(Bounds.NONE), 1);
        b.of(0, "whose one can have been in some way, as bits.");
        b.is("owners(7) of five", dealt(5, 8, 10).owners(7), 31);
        b.is("owners(8), which was not seen", dealt(5, 8, 10).owners(8), 0);
        b.is("owners(0) of one", dealt(1, 1, 1).owners(0), 1);
        b.is("owners(0) of nobody", dealt(0, 1, 1).owners(0), 0);
        b.is("owners(0) with just enough", dealt(2, 8, 4).owners(0), 3);
        b.is("owners(0) with too few", dealt(2, 8, 3).owners(0), 0);
        EveningAuction y = new EveningAuction();
        y.seen(0, 0);
        y.seen(9, 1);
        b.is("owners(0) of two", y.owners(0), 1);
        b.is("owners(9) of two", y.owners(9), 2);
        y.seen(5, 2);
        y.bidder(2, 1, 0);
        b.is("owners(0) where another can be nobody's", y.owners(0), 0);
    }

    private void worth() {
        b.of(0, "WORTH of an EVENING to a BIDDER behind the weather: VALUE times (16 less CLOUDS) by 16: a FRACTION.");
        EveningAuction x = new EveningAuction();
        x.value(4, 9, 99);
        long[][] want = {{99, 1}, {1485, 16}, {693, 8}, {99, 16}, {0, 1}};
        int[] clouds = {0, 1, 2, 15, 16};
        for (int i = 0; i < clouds.length; i++) {
            x.evening(9, 1, clouds[i]);
            b.is("worth with clouds of " + clouds[i] + ", above", x.worth(4, 9, 0), want[i][0]);
            b.is("worth with clouds of " + clouds[i] + ", below", x.worth(4, 9, 1), want[i][1]);
        }
        b.is("worth to another, above", x.worth(3, 9, 0), 0);
        b.is("worth to another, below", x.worth(3, 9, 1), 1);
    }

    private void swap() {
        b.of(0, "SWAP: two OWNERS would change two EVENINGS, if both VALUES are truly more: 1, 0.");
        for (int first = -1; first <= 1; first++) {
            for (int second = -1; second <= 1; second++) {
                EveningAuction x = Due.withBids("0001;9401");
                x.value(0, 0, 50);
                x.value(0, 9, 50 + first);
                x.value(4, 9, 50);
                x.value(4, 0, 50 + second);
                int want = first == 1 && second == 1 ? 1 : 0;
                b.is("swap(0, 9) of " + first + " and " + second + " more", x.swap(0, 9), want);
                b.is("swap(9, 0) of " + first + " and " + second + " more", x.swap(9, 0), want);
            }
        }
        EveningAuction y = Due.withBids("0001;9401");
        b.is("swap(0, 9) of nothing", y.swap(0, 9), 0);
        y.value(0, 9, 99);
        y.value(4, 0, 99);
        b.is("swap(0, 9) of all", y.swap(0, 9), 1);
    }

    // ---- refusals

    private void orderOfRefusals() {
        b.of(0, "Refusals, the first that fits, in the order told at each act: BAD -2 (a number not as told, no such"
            + " thing), NULL, NOT -3 (as told), FULL -4, other FINDINGS.");
        b.refusedIn("when full", Bounds::withHundredBytes, "type(256): BAD, FULL", x -> x.type(256), -2);
        b.refusedIn("when full", Bounds::withHundredBytes, "type(59): FULL", x -> x.type(59), -4);
        b.refusedIn("with eight", Bounds::withEightSeen, "seen(10, 0): BAD, FULL", x -> x.seen(10, 0), -2);
        b.refusedIn("with eight", Bounds::withEightSeen, "seen(0, 5): BAD, FULL", x -> x.seen(0, 5), -2);
        b.refusedIn("with eight", Bounds::withEightSeen, "seen(0, 0): FULL", x -> x.seen(0, 0), -4);
        Supplier<EveningAuction> all = Bounds::withAll;
        b.refusedIn("with all", all, "read(3, 5): BAD, NULL", x -> x.read(3, 5), -2);
        b.refusedIn("with all", all, "read(4, 5): BAD, BAD", x -> x.read(4, 5), -2);
        b.found("with all", all, "read(3, 0): NULL", x -> x.read(3, 0), Bounds.NULL);
        b.refusedIn("with all", all, "price(10): BAD, NOT", x -> x.price(10), -2);
        b.refusedIn("with all", all, "price(5): NOT", x -> x.price(5), -3);
        b.refusedIn("with all", all, "harm(10): BAD, NOT", x -> x.harm(10), -2);
        b.refusedIn("with all", all, "harm(5): NOT", x -> x.harm(5), -3);
        b.refusedIn("with all", all, "swap(5, 5): BAD, NOT", x -> x.swap(5, 5), -2);
        b.refusedIn("with all", all, "swap(5, 10): BAD, NOT", x -> x.swap(5, 10), -2);
        b.refusedIn("with all", all, "swap(5, 6): NOT", x -> x.swap(5, 6), -3);
        b.refusedIn("with all", all, "rather(4): BAD, NULL", x -> x.rather(4), -2);
        b.found("with all", all, "rather(3): NULL, NOT", x -> x.rather(3), Bounds.NULL);
        b.refusedIn("with all", all, "rather(1): NOT", x -> x.rather(1), -3);
        b.refusedIn("with all", all, "lose(4): BAD, NULL", x -> x.lose(4), -2);
        b.refusedIn("with all", all, "write(4): BAD, NULL", x -> x.write(4), -2);
        b.refusedIn("with all", all, "sheet(4, 0, -1): BAD, SIZE", x -> x.sheet(4, 0, -1), -2);
        b.refusedIn("with all", all, "sheet(0, 3, -1): BAD, SIZE", x -> x.sheet(0, 3, -1), -2);
        b.found("with all", all, "sheet(0, 0, -1): SIZE", x -> x.sheet(0, 0, -1), Bounds.SIZE);
        orderOfItems();
        orderOfCopies();
    }

    private void orderOfItems() {
        Supplier<EveningAuction> all = Bounds::withAll;
        b.refusedIn("with all", all, "lay(3, 3, -1, 0): BAD, NULL, INDEX", x -> x.lay(3, 3, -1, 0), -2);
        b.refusedIn("with all", all, "lay(4, 0, -1, 0): BAD, NULL, INDEX", x -> x.lay(4, 0, -1, 0), -2);
        b.refusedIn("with all", all, "lay(0, 3, 5, 0): BAD, CAST, INDEX", x -> x.lay(0, 3, 5, 0), -2);
        b.found("with all", all, "lay(3, 0, -1, 0): NULL, INDEX", x -> x.lay(3, 0, -1, 0), Bounds.NULL);
        b.found("with all", all, "lay(0, 0, -1, 0): CAST, INDEX", x -> x.lay(0, 0, -1, 0), Bounds.CAST);
        b.found("with all", all, "lay(0, 1, 5, 0): CAST, INDEX", x -> x.lay(0, 1, 5, 0), Bounds.CAST);
        b.found("with all", all, "lay(0, 2, 5, 0): INDEX", x -> x.lay(0, 2, 5, 0), Bounds.INDEX);
        b.refusedIn("with all", all, "get(3, 3, -1): BAD, NULL, INDEX", x -> x.get(3, 3, -1), Bounds.MIN);
        b.refusedIn("with all", all, "get(4, 0, -1): BAD, NULL, INDEX", x -> x.get(4, 0, -1), Bounds.MIN);
        b.foundByGet("with all", all, "get(3, 0, -1): NULL, INDEX", x -> x.get(3, 0, -1), Bounds.NULL);
        b.foundByGet("with all", all, "get(0, 0, -1): CAST, INDEX", x -> x.get(0, 0, -1), Bounds.CAST);
        b.foundByGet("with all", all, "get(0, 1, 5): CAST, INDEX", x -> x.get(0, 1, 5), Bounds.CAST);
        b.foundByGet("with all", all, "get(0, 2, 5): INDEX", x -> x.get(0, 2, 5), Bounds.INDEX);
    }

    private void orderOfCopies() {
        Supplier<EveningAuction> all = Bounds::withAll;
        b.refusedIn("with all", all, "copy(4, 0, 3, 0, -1): BAD, NULL", x -> x.copy(4, 0, 3, 0, -1), -2);
        b.refusedIn("with all", all, "copy(3, 0, 4, 0, -1): BAD, NULL", x -> x.copy(3, 0, 4, 0, -1), -2);
        b.found("with all", all, "copy(3, -1, 0, 0, 1): NULL, INDEX", x -> x.copy(3, -1, 0, 0, 1), Bounds.NULL);
        b.found("with all", all, "copy(0, -1, 3, 0, 1): NULL, INDEX", x -> x.copy(0, -1, 3, 0, 1), Bounds.NULL);
        b.found("with all", all, "copy(0, -1, 1, 0, 1): STORE, INDEX", x -> x.copy(0, -1, 1, 0, 1), Bounds.STORE);
        b.found("with all", all, "copy(0, 0, 2, 0, 9): STORE, INDEX", x -> x.copy(0, 0, 2, 0, 9), Bounds.STORE);
        b.found("with all", all, "copy(0, 0, 0, 0, 6): INDEX", x -> x.copy(0, 0, 0, 0, 6), Bounds.INDEX);
    }

    /** Of each act one refusal of each kind that it has, in a state in which a change would be seen. */
    private void refusalsChangeNothing() {
        b.of(0, "They change nothing (FINDINGS but count() 8).");
        b.refused("type(-1)", x -> x.type(-1), Bounds.BAD);
        b.refused("bidder(0, 2, 1)", x -> x.bidder(0, 2, 1), Bounds.BAD);
        b.refused("bidder(0, -1, 1)", x -> x.bidder(0, -1, 1), Bounds.BAD);
        b.refused("evening(0, 2, 1)", x -> x.evening(0, 2, 1), Bounds.BAD);
        b.refused("evening(0, -1, 1)", x -> x.evening(0, -1, 1), Bounds.BAD);
        b.refused("set(3, 1)", x -> x.set(3, 1), Bounds.BAD);
        b.refused("set(-1, 1)", x -> x.set(-1, 1), Bounds.BAD);
        b.refused("holds(20)", x -> x.holds(20), Bounds.BAD);
        b.refused("without(20, 0)", x -> x.without(20, 0), Bounds.BAD);
        b.refused("has(0, 3)", x -> x.has(0, 3), Bounds.BAD);
        b.refused("meet(1, 1, 2)", x -> x.meet(1, 1, 2), Bounds.BAD);
        b.refused("club(32)", x -> x.club(32), Bounds.BAD);
        b.refused("share(0, 2)", x -> x.share(0, 2), Bounds.BAD_LONG);
        b.refused("worth(0, 0, 2)", x -> x.worth(0, 0, 2), Bounds.BAD_LONG);
        b.refused("owners(-2)", x -> x.owners(-2), Bounds.BAD);
        b.refused("count(9)", x -> x.count(9), Bounds.BAD);
        // A finding leaves an earlier one behind it in count(8), a refusal that is none leaves it.
        EveningAuction x = Bounds.withAll();
        x.sheet(0, 0, -1);
        x.type(256);
        x.rather(1);
        x.price(5);
        b.is("count(8) behind refusals that are no findings", x.count(8), Bounds.SIZE);
        x.lose(3);
        b.is("count(8) behind a finding", x.count(8), Bounds.NULL);
        x.lose(0);
        b.is("count(8) behind what goes well", x.count(8), Bounds.NULL);
    }

    private void refusalsAsNumbers() {
        b.of(0, "Where the answer is a long, a refusal -x is the least long and x more;");
        b.refused("share(5, 0)", x -> x.share(5, 0), -9223372036854775806L);
        b.refused("share(0, -1)", x -> x.share(0, -1), -9223372036854775806L);
        b.refused("worth(5, 0, 0)", x -> x.worth(5, 0, 0), -9223372036854775806L);
        b.refused("worth(0, 10, 0)", x -> x.worth(0, 10, 0), -9223372036854775806L);
        b.refused("worth(0, 0, -1)", x -> x.worth(0, 0, -1), -9223372036854775806L);
        b.of(0, "where any number is told, it is -10000 less x.");
        b.refused("gain(5)", x -> x.gain(5), -10002);
        b.refused("gain(-1)", x -> x.gain(-1), -10002);
    }
}
