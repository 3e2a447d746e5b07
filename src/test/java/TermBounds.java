import java.math.BigInteger;

/** The bounds that the terms name ahead of the promises, sentence by sentence, up to the weather and the sheets. */
final class TermBounds {
    private interface Of {
        long ask(EveningAuction x, int which);
    }

    private final Bounds b;

    TermBounds(Bounds b) {
        this.b = b;
    }

    void all() {
        biddersAndEvenings();
        lastCall();
        purse();
        programme();
        value();
        joy();
        lengthOfText();
        formOfBids();
        fault();
        faultOfUnended();
        faultOfNothing();
        faultOfTwentyFirst();
        noBidsWithFault();
        step();
        reserve();
        oneByOne();
        amountAndReserve();
        amountAndStep();
        notTheLeader();
        amountsAndPurse();
        judged();
        owns();
        priceByLaw0();
        priceByLaw1();
        clouds();
        rain();
        lots();
        fractions();
        sheets();
        findings();
    }

    // ---- bidders and evenings

    private void within(String call, Of of, int greatest, long refusal) {
        for (int which : new int[] {0, greatest}) {
            b.isNot(call.replace("?", "" + which), of.ask(Bounds.withAll(), which), refusal);
        }
        for (int which : new int[] {greatest + 1, Bounds.MIN, Bounds.MAX}) {
            b.refused(call.replace("?", "" + which), x -> of.ask(x, which), refusal);
        }
    }

    private void withinAndNoNone(String call, Of of, int greatest, long refusal) {
        within(call, of, greatest, refusal);
        b.refused(call.replace("?", "-1"), x -> of.ask(x, -1), refusal);
    }

    private void biddersAndEvenings() {
        b.of(0, "BIDDERS are 0 to 4, EVENINGS 0 to 9.");
        withinAndNoNone("bidder(?, 0, 1)", (x, w) -> x.bidder(w, 0, 1), 4, Bounds.BAD);
        withinAndNoNone("bidder(?, 1, 1)", (x, w) -> x.bidder(w, 1, 1), 4, Bounds.BAD);
        withinAndNoNone("value(?, 0, 1)", (x, w) -> x.value(w, 0, 1), 4, Bounds.BAD);
        withinAndNoNone("joy(?, 0, 1)", (x, w) -> x.joy(w, 0, 1), 4, Bounds.BAD);
        withinAndNoNone("busy(?, 0, 1)", (x, w) -> x.busy(w, 0, 1), 4, Bounds.BAD);
        withinAndNoNone("read(0, ?)", (x, w) -> x.read(0, w), 4, Bounds.BAD);
        withinAndNoNone("has(?, 0)", (x, w) -> x.has(w, 0), 4, Bounds.BAD);
        withinAndNoNone("happy(?)", (x, w) -> x.happy(w), 4, Bounds.BAD);
        withinAndNoNone("wet(?, 1)", (x, w) -> x.wet(w, 1), 4, Bounds.BAD);
        withinAndNoNone("gain(?)", (x, w) -> x.gain(w), 4, -10002);
        within("each(?)", (x, w) -> x.each(w), 4, Bounds.BAD);
        withinAndNoNone("pays(?)", (x, w) -> x.pays(w), 4, Bounds.BAD);
        withinAndNoNone("share(?, 0)", (x, w) -> x.share(w, 0), 4, Bounds.BAD_LONG);
        withinAndNoNone("worth(?, 0, 0)", (x, w) -> x.worth(w, 0, 0), 4, Bounds.BAD_LONG);
        withinAndNoNone("value(0, ?, 1)", (x, w) -> x.value(0, w, 1), 9, Bounds.BAD);
        withinAndNoNone("evening(?, 0, 1)", (x, w) -> x.evening(w, 0, 1), 9, Bounds.BAD);
        withinAndNoNone("evening(?, 1, 1)", (x, w) -> x.evening(w, 1, 1), 9, Bounds.BAD);
        withinAndNoNone("busy(0, ?, 1)", (x, w) -> x.busy(0, w, 1), 9, Bounds.BAD);
        withinAndNoNone("owner(?)", (x, w) -> x.owner(w), 9, Bounds.BAD);
        withinAndNoNone("price(?)", (x, w) -> x.price(w), 9, Bounds.BAD);
        withinAndNoNone("harm(?)", (x, w) -> x.harm(w), 9, Bounds.BAD);
        withinAndNoNone("without(0, ?)", (x, w) -> x.without(0, w), 9, Bounds.BAD);
        withinAndNoNone("seen(?, 0)", (x, w) -> x.seen(w, 0), 9, Bounds.BAD);
        within("owners(?)", (x, w) -> x.owners(w), 9, Bounds.BAD);
        withinAndNoNone("worth(0, ?, 0)", (x, w) -> x.worth(0, w, 0), 9, Bounds.BAD_LONG);
        withinAndNoNone("swap(?, 5)", (x, w) -> x.swap(w, 5), 9, Bounds.BAD);
        withinAndNoNone("swap(5, ?)", (x, w) -> x.swap(5, w), 9, Bounds.BAD);
    }

    private void lastCall() {
        b.of(0, "An object is used for at most 512 calls after it has been made; what later calls answer is free.");
        EveningAuction x = usedFor(507);
        Due.type(x, "0107");
        b.is("owner(0) as call 512", x.owner(0), 1);
        b.is("digest() as call 512", usedFor(511).digest(), new EveningAuction().digest());
        b.is("type('0') as call 512", usedFor(511).type('0'), 1);
    }

    /** As new, behind so many calls. */
    private static EveningAuction usedFor(int calls) {
        EveningAuction x = new EveningAuction();
        for (int n = 0; n < calls - 1; n++) {
            x.type('9');
        }
        x.wipe();
        return x;
    }

    private void purse() {
        b.of(0, "A BIDDER has a PURSE (0 to 999; 100 at first)");
        for (int bidder = 0; bidder < 5; bidder++) {
            int who = bidder;
            EveningAuction x = new EveningAuction();
            b.is("purse at first", x.bidder(who, 0, 0), 100);
            b.is("purse of 0", x.bidder(who, 0, 999), 0);
            b.is("purse of 999", x.bidder(who, 0, 998), 999);
            b.is("purse of 998", x.bidder(who, 0, 1), 998);
            b.is("purse of 1", x.bidder(who, 0, 1), 1);
            b.refused("bidder(" + who + ", 0, -1)", y -> y.bidder(who, 0, -1), Bounds.BAD);
            b.refused("bidder(" + who + ", 0, 1000)", y -> y.bidder(who, 0, 1000), Bounds.BAD);
        }
    }

    private void programme() {
        b.of(0, ", and a PROGRAMME (0 dance, 1 concert, 2 dark, 3 fog, 4 cats; its number at first) for each EVENING"
            + " that it OWNS;");
        EveningAuction x = Due.withBids("0301;9301");
        x.joy(4, 0, 5);
        x.joy(4, 4, 0);
        for (int bidder = 0; bidder < 5; bidder++) {
            b.is("programme at first", x.bidder(bidder, 1, bidder), bidder);
            int who = bidder;
            b.refused("bidder(" + who + ", 1, -1)", y -> y.bidder(who, 1, -1), Bounds.BAD);
            b.refused("bidder(" + who + ", 1, 5)", y -> y.bidder(who, 1, 5), Bounds.BAD);
        }
        b.is("happy(4) by 3", x.happy(4), 0);
        b.is("bidder(3, 1, 0)", x.bidder(3, 1, 0), 3);
        b.is("happy(4) by 0 in both", x.happy(4), 10);
        b.is("bidder(3, 1, 4)", x.bidder(3, 1, 4), 0);
        b.is("happy(4) by 4 in both", x.happy(4), 0);
        b.is("programme of 4", x.bidder(3, 1, 3), 4);
    }

    private void value() {
        b.of(0, "a VALUE of each EVENING (0 to 99; 0 at first);");
        EveningAuction x = new EveningAuction();
        for (int bidder = 0; bidder < 5; bidder++) {
            for (int evening : new int[] {0, 9}) {
                b.is("value at first", x.value(bidder, evening, 99), 0);
                b.is("value of 99", x.value(bidder, evening, 98), 99);
                b.is("value of 98", x.value(bidder, evening, 0), 98);
                b.is("value of 0", x.value(bidder, evening, 1), 0);
                b.is("value of 1", x.value(bidder, evening, 0), 1);
            }
        }
        b.refused("value(4, 9, -1)", y -> y.value(4, 9, -1), Bounds.BAD);
        b.refused("value(4, 9, 100)", y -> y.value(4, 9, 100), Bounds.BAD);
    }

    private void joy() {
        b.of(0, "JOY of each PROGRAMME (0 to 9; at first 9 of that with its number, 0 of all others).");
        EveningAuction x = new EveningAuction();
        for (int bidder = 0; bidder < 5; bidder++) {
            for (int programme = 0; programme < 5; programme++) {
                b.is("joy at first", x.joy(bidder, programme, 9), programme == bidder ? 9 : 0);
                b.is("joy of 9", x.joy(bidder, programme, 8), 9);
                b.is("joy of 8", x.joy(bidder, programme, 0), 8);
                b.is("joy of 0", x.joy(bidder, programme, 1), 0);
            }
        }
        b.refused("joy(4, 4, -1)", y -> y.joy(4, 4, -1), Bounds.BAD);
        b.refused("joy(4, 4, 10)", y -> y.joy(4, 4, 10), Bounds.BAD);
        b.refused("joy(4, -1, 1)", y -> y.joy(4, -1, 1), Bounds.BAD);
        b.refused("joy(4, 5, 1)", y -> y.joy(4, 5, 1), Bounds.BAD);
    }

    // ---- the text of the bids

    private void lengthOfText() {
        b.of(0, "BIDS are a text of up to 100 bytes, 20 at most (0 on), with ; between them:");
        EveningAuction x = Due.withBids(Bounds.bids(19));
        b.is("count(0) of 19", x.count(0), 19);
        b.is("bid 18 of 19", x.holds(18), 1);
        b.is("bid 19 of 19", x.holds(19), Bounds.BAD);
        Due.type(x, ";9102");
        b.is("count(0) of 20", x.count(0), 20);
        b.is("count(1) of 20", x.count(1), 99);
        b.is("the first bid is 0", x.holds(0), 1);
        b.is("there is no bid -1", x.holds(-1), Bounds.BAD);
        b.is("the last bid is 19", x.holds(19), 1);
        b.is("there is no bid 20", x.holds(20), Bounds.BAD);
        b.is("byte 100", x.type(';'), 100);
        b.is("byte 101", x.type('0'), Bounds.FULL);
        b.is("count(1)", x.count(1), 100);
        EveningAuction y = Due.withBids("0001;");
        b.is("count(0) with ; behind the last", y.count(0), 0);
        EveningAuction z = Due.withBids(";0001");
        b.is("count(0) with ; ahead of the first", z.count(0), 0);
        b.is("count(0) with two ; between", Due.withBids("0001;;1001").count(0), 0);
        b.is("count(0) with no ; between", Due.withBids("00011001").count(0), 0);
        b.is("count(0) with one ; between", Due.withBids("0001;1001").count(0), 2);
    }

    private void faultIs(String text, int want) {
        EveningAuction x = Due.withBids(text);
        b.is("fault() of " + text, x.fault(), want);
        b.is("count(0) of " + text, x.count(0), want == Bounds.NONE ? (text.length() + 1) / 5 : 0);
    }

    private void formOfBids() {
        b.of(0, "the figure of an EVENING, the figure of a BIDDER (0 to 4), two figures, an AMOUNT (01 to 99).");
        faultIs("0001", Bounds.NONE);
        faultIs("9001", Bounds.NONE);
        faultIs("/001", 0);
        faultIs(":001", 0);
        faultIs("0401", Bounds.NONE);
        faultIs("0501", 1);
        faultIs("0/01", 1);
        faultIs("0:01", 1);
        faultIs("0091", Bounds.NONE);
        faultIs("00/1", 2);
        faultIs("00:1", 2);
        faultIs("0019", Bounds.NONE);
        faultIs("001/", 3);
        faultIs("001:", 3);
        faultIs("0000", 3);
        faultIs("0002", Bounds.NONE);
        faultIs("0099", Bounds.NONE);
        faultIs("0098", Bounds.NONE);
        faultIs("00100", 4);
        faultIs("0001:0101", 4);
        faultIs("0001<0101", 4);
        EveningAuction x = Due.withBids("9499");
        b.is("owner(9) of 9499", x.owner(9), 4);
        b.is("price(9) of 9499", x.price(9), 99);
        EveningAuction y = Due.withBids("0001");
        b.is("owner(0) of 0001", y.owner(0), 0);
        b.is("price(0) of 0001", y.price(0), 1);
    }

    private void fault() {
        b.of(0, "The FAULT is the place of the first byte with which it cannot go on");
        String twenty = Bounds.bids(20);
        for (int place = 0; place < 99; place++) {
            faultIs(twenty.substring(0, place) + "x" + twenty.substring(place + 1), place);
            faultIs(twenty.substring(0, place) + "x", place);
        }
        faultIs(twenty + "x", 99);
        faultIs("x", 0);
        faultIs("xx", 0);
        faultIs("05x1", 1);
        faultIs("0001x", 4);
        for (int wrong : new int[] {0, 1, 47, 58, 127, 128, 176, 255}) {
            faultIs("" + (char) wrong, 0);
            faultIs("0001" + (char) wrong, 4);
        }
        // Bytes of which the lowest seven or six bits would be a figure or a ;
        faultIs("" + (char) ('0' + 128), 0);
        faultIs("0001" + (char) (';' + 128), 4);
        faultIs("p001", 0);
    }

    private void faultOfUnended() {
        b.of(0, "(an empty text is well; of one that is not ended, its end),");
        String twenty = Bounds.bids(20) + ";";
        for (int length = 0; length <= 100; length++) {
            boolean ended = length == 0 || length % 5 == 4;
            faultIs(twenty.substring(0, length), ended ? Bounds.NONE : length);
        }
        EveningAuction x = Due.withBids("0001;");
        b.is("fault() of 0001;", x.fault(), 5);
        x.wipe();
        b.is("fault() of a text that is empty again", x.fault(), Bounds.NONE);
        Due.type(x, "0001");
        x.undo();
        b.is("fault() of a text of which all is undone", x.fault(), Bounds.NONE);
    }

    private void faultOfNothing() {
        b.of(0, "of the second figure of an AMOUNT of 00,");
        faultIs("0000", 3);
        faultIs("0001", Bounds.NONE);
        faultIs("0010", Bounds.NONE);
        faultIs("000", 3);
        faultIs("0000;", 3);
        faultIs("0000;x", 3);
        faultIs("0000x", 3);
        faultIs("0001;0100", 8);
        faultIs("0000;0100", 3);
        String nineteen = Bounds.bids(19);
        faultIs(nineteen + ";9100", 98);
        faultIs(nineteen + ";9101", Bounds.NONE);
        faultIs(nineteen + ";9100;", 98);
    }

    private void faultOfTwentyFirst() {
        b.of(0, "or of the first byte of a twenty-first.");
        EveningAuction x = Bounds.withTwentyBids();
        b.is("fault() of twenty", x.fault(), Bounds.NONE);
        x.type(';');
        b.is("fault() where a twenty-first would begin", x.fault(), 100);
        b.is("type('0') of a twenty-first", x.type('0'), Bounds.FULL);
        b.is("fault() behind that", x.fault(), 100);
        b.is("count(0) behind that", x.count(0), 0);
    }

    private void noBidsWithFault() {
        b.of(0, "With a FAULT there are no BIDS.");
        EveningAuction x = Due.withBids("0010;1120");
        b.is("count(0) without one", x.count(0), 2);
        x.type(';');
        b.is("fault()", x.fault(), 10);
        b.is("count(0)", x.count(0), 0);
        b.is("count(1)", x.count(1), 10);
        b.is("count(2)", x.count(2), 0);
        b.is("count(3)", x.count(3), 0);
        b.is("count(4)", x.count(4), 0);
        b.is("holds(0)", x.holds(0), Bounds.BAD);
        b.is("without(0, 0)", x.without(0, 0), Bounds.BAD);
        b.is("judged()", x.judged(), Bounds.NONE);
        b.is("owner(0)", x.owner(0), Bounds.NONE);
        b.is("price(0)", x.price(0), Bounds.NOT);
        b.is("has(0, 0)", x.has(0, 0), 0);
        b.is("has(0, 1)", x.has(0, 1), 0);
        b.is("has(0, 2)", x.has(0, 2), 100);
        b.is("undo()", x.undo(), Bounds.NOT);
        Due.type(x, "2230");
        b.is("count(0) when it is mended", x.count(0), 3);
        b.is("owner(0) when it is mended", x.owner(0), 0);
        b.is("owner(2) when it is mended", x.owner(2), 2);
    }

    // ---- which bids hold

    private void step() {
        b.of(0, "STEP (1 to 20; 1 at first),");
        EveningAuction x = new EveningAuction();
        b.is("step at first", x.count(6), 1);
        b.is("set(0, 20)", x.set(0, 20), 1);
        b.is("set(0, 19)", x.set(0, 19), 20);
        b.is("set(0, 2)", x.set(0, 2), 19);
        b.is("set(0, 1)", x.set(0, 1), 2);
        b.is("count(6)", x.count(6), 1);
        b.refused("set(0, 0)", y -> y.set(0, 0), Bounds.BAD);
        b.refused("set(0, 21)", y -> y.set(0, 21), Bounds.BAD);
        b.refused("set(0, -1)", y -> y.set(0, -1), Bounds.BAD);
    }

    private void reserve() {
        b.of(0, "RESERVE of each EVENING (0 to 99; 0 at first).");
        EveningAuction x = new EveningAuction();
        for (int evening = 0; evening < 10; evening++) {
            b.is("reserve at first", x.evening(evening, 0, 99), 0);
            b.is("reserve of 99", x.evening(evening, 0, 98), 99);
            b.is("reserve of 98", x.evening(evening, 0, 0), 98);
            b.is("reserve of 0", x.evening(evening, 0, 1), 0);
        }
        b.refused("evening(9, 0, -1)", y -> y.evening(9, 0, -1), Bounds.BAD);
        b.refused("evening(9, 0, 100)", y -> y.evening(9, 0, 100), Bounds.BAD);
    }

    private void holdsIs(EveningAuction x, int... want) {
        for (int bid = 0; bid < want.length; bid++) {
            b.is("holds(" + bid + ")", x.holds(bid), want[bid]);
        }
    }

    private void oneByOne() {
        b.of(0, "BIDS are looked at one by one: one HOLDS, if its AMOUNT");
        holdsIs(Due.withBids("0010;0109;0111;0211;0212"), 1, 0, 1, 0, 1);
        holdsIs(Due.withBids("0109;0010"), 1, 1);
        holdsIs(Due.withBids("0099;1001;1002;2101"), 1, 1, 0, 1);
    }

    private void amountAndReserve() {
        b.of(0, "is no less than the RESERVE,");
        EveningAuction x = Due.withBids("0050;9099");
        int[] reserves = {0, 49, 50, 51, 99};
        int[] first = {1, 1, 1, 0, 0};
        x.bidder(0, 0, 999);
        for (int i = 0; i < reserves.length; i++) {
            x.evening(0, 0, reserves[i]);
            b.is("50 with a reserve of " + reserves[i], x.holds(0), first[i]);
            x.evening(9, 0, reserves[i]);
            b.is("99 with a reserve of " + reserves[i], x.holds(1), 1);
        }
        EveningAuction y = Due.withBids("0001");
        y.evening(0, 0, 1);
        b.is("01 with a reserve of 1", y.holds(0), 1);
        y.evening(0, 0, 2);
        b.is("01 with a reserve of 2", y.holds(0), 0);
    }

    private void amountAndStep() {
        b.of(0, "no less than the AMOUNT that leads on that EVENING and STEP, if one does,");
        for (int step : new int[] {1, 2, 19, 20}) {
            for (int more = -1; more <= 1; more++) {
                EveningAuction x = Due.withBids("0030;01" + (30 + step + more));
                x.set(0, step);
                holdsIs(x, 1, more < 0 ? 0 : 1);
            }
        }
        EveningAuction top = Due.withBids("0079;0199;1080;1199");
        top.bidder(0, 0, 999);
        top.bidder(1, 0, 999);
        top.set(0, 20);
        holdsIs(top, 1, 1, 1, 0);
        EveningAuction nobodyLeads = Due.withBids("0001;1119");
        nobodyLeads.set(0, 20);
        holdsIs(nobodyLeads, 1, 1);
        EveningAuction ofOthers = Due.withBids("0090;1101");
        holdsIs(ofOthers, 1, 1);
    }

    private void notTheLeader() {
        b.of(0, "if it is not the BIDDER who leads there already,");
        holdsIs(Due.withBids("0010;0020"), 1, 0);
        holdsIs(Due.withBids("0010;0111;0020"), 1, 1, 1);
        holdsIs(Due.withBids("0010;1020"), 1, 1);
        holdsIs(Due.withBids("0010;0109;0020"), 1, 0, 0);
        holdsIs(Due.withBids("9410;9499;9311;9499"), 1, 0, 1, 1);
    }

    private void amountsAndPurse() {
        b.of(0, "and if AMOUNTS with which the BIDDER leads elsewhere, and this one, are no more than its PURSE;");
        holdsIs(Due.withBids("0060;1039"), 1, 1);
        holdsIs(Due.withBids("0060;1040"), 1, 1);
        holdsIs(Due.withBids("0060;1041"), 1, 0);
        EveningAuction x = Due.withBids("0050");
        x.bidder(0, 0, 49);
        holdsIs(x, 0);
        x.bidder(0, 0, 50);
        holdsIs(x, 1);
        x.bidder(0, 0, 51);
        holdsIs(x, 1);
        EveningAuction poor = Due.withBids("0001");
        poor.bidder(0, 0, 0);
        holdsIs(poor, 0);
        poor.bidder(0, 0, 1);
        holdsIs(poor, 1);
        StringBuilder text = new StringBuilder("0499");
        for (int evening = 1; evening < 10; evening++) {
            text.append(";").append(evening).append("499");
        }
        EveningAuction rich = Due.withBids(text.toString());
        rich.bidder(4, 0, 990);
        holdsIs(rich, 1, 1, 1, 1, 1, 1, 1, 1, 1, 1);
        rich.bidder(4, 0, 989);
        holdsIs(rich, 1, 1, 1, 1, 1, 1, 1, 1, 1, 0);
        b.of(0, "then it leads.");
        holdsIs(Due.withBids("0060;0161;1099"), 1, 1, 1);
        holdsIs(Due.withBids("0060;0160;1099"), 1, 0, 0);
        holdsIs(Due.withBids("0060;0161;0062;1039"), 1, 1, 1, 0);
        holdsIs(Due.withBids("0060;0161;0062;1038"), 1, 1, 1, 1);
    }

    private void judged() {
        b.of(0, "JUDGED: the first that does not; NONE.");
        b.is("judged() of none", new EveningAuction().judged(), Bounds.NONE);
        b.is("judged() of one that holds", Due.withBids("0001").judged(), Bounds.NONE);
        EveningAuction x = Bounds.withTwentyBids();
        b.is("judged() of twenty that hold", x.judged(), Bounds.NONE);
        x.undo();
        Due.type(x, ";9101");
        b.is("judged() of the last", x.judged(), 19);
        x.evening(0, 0, 2);
        b.is("judged() of the first of two", x.judged(), 0);
        x.evening(0, 0, 0);
        x.evening(3, 0, 2);
        b.is("judged() of bid 3", x.judged(), 3);
    }

    private void owns() {
        b.of(0, "Behind all BIDS who leads OWNS the EVENING.");
        EveningAuction x = Bounds.withTwentyBids();
        for (int evening = 0; evening < 10; evening++) {
            b.is("owner(" + evening + ")", x.owner(evening), 1);
        }
        x.undo();
        b.is("owner(9) behind the nineteenth", x.owner(9), 0);
        b.is("owner(0) of none", new EveningAuction().owner(0), Bounds.NONE);
        EveningAuction y = Due.withBids("0010;0111;0211");
        b.is("owner(0): the last that held", y.owner(0), 1);
    }

    private void priceByLaw0() {
        b.of(0, "PRICE by LAW 0 (at first): the AMOUNT that leads;");
        EveningAuction x = Due.withBids("0001;9499;5010;5150");
        x.evening(5, 0, 10);
        b.is("count(7) at first", x.count(7), 0);
        b.is("price(0)", x.price(0), 1);
        b.is("price(9)", x.price(9), 99);
        b.is("price(5)", x.price(5), 50);
    }

    private void priceByLaw1() {
        b.of(0, "by LAW 1: of all other BIDS on it that HELD the greatest AMOUNT, or its RESERVE, if that is more"
            + " (or there is no other).");
        EveningAuction x = Due.withBids("0020;0130;0040;1050;1150;2060;2061");
        x.bidder(0, 0, 999);
        x.set(1, 1);
        b.is("price(0) of three", x.price(0), 30);
        b.is("price(1): the other did not hold", x.price(1), 0);
        b.is("price(2): its own second did not hold", x.price(2), 0);
        int[] reserves = {19, 20};
        for (int reserve : reserves) {
            x.evening(0, 0, reserve);
            b.is("price(0) with a reserve of " + reserve, x.price(0), 30);
        }
        x.evening(1, 0, 1);
        b.is("price(1) with a reserve of 1", x.price(1), 1);
        x.evening(1, 0, 50);
        b.is("price(1) with a reserve of its amount", x.price(1), 50);
        x.evening(1, 0, 51);
        b.is("price(1) with a reserve above it", x.price(1), Bounds.NOT);
        x.evening(0, 0, 30);
        b.is("price(0) with a reserve of the second", x.price(0), 30);
        x.evening(0, 0, 31);
        b.is("price(0) with a reserve above the second", x.price(0), 31);
        EveningAuction own = Due.withBids("0010;0111;0012;0130");
        own.set(1, 1);
        own.set(0, 1);
        b.is("price(0) of four", own.price(0), 12);
    }

    // ---- the weather

    private void clouds() {
        b.of(0, "CLOUDS of an EVENING (0 to 16 sixteenths; 0 at first).");
        EveningAuction x = new EveningAuction();
        for (int evening = 0; evening < 10; evening++) {
            b.is("clouds at first", x.evening(evening, 1, 16), 0);
            b.is("clouds of 16", x.evening(evening, 1, 15), 16);
            b.is("clouds of 15", x.evening(evening, 1, 0), 15);
            b.is("clouds of 0", x.evening(evening, 1, 1), 0);
        }
        b.refused("evening(9, 1, -1)", y -> y.evening(9, 1, -1), Bounds.BAD);
        b.refused("evening(9, 1, 17)", y -> y.evening(9, 1, 17), Bounds.BAD);
    }

    private static final int[] SEEDS = {0, 1, 7, -1, 65535, 65536, Bounds.MIN, Bounds.MAX, 123456789, -987654321};

    /** The lots of 16 of evenings 0 on, by whole numbers that do not wrap, modulo 2 to the 32nd. */
    private static int[] lotsOf(int seed) {
        BigInteger all = BigInteger.ONE.shiftLeft(32);
        BigInteger now = BigInteger.valueOf(seed).mod(all);
        int[] lots = new int[10];
        for (int evening = 0; evening < 10; evening++) {
            now = now.multiply(BigInteger.valueOf(1103515245)).add(BigInteger.valueOf(12345)).mod(all);
            lots[evening] = now.divide(BigInteger.valueOf(65536)).mod(BigInteger.valueOf(16)).intValue();
        }
        return lots;
    }

    private void rain() {
        b.of(0, "RAIN by a SEED: EVENINGS 0 on are refused, if a LOT of 16 is less than CLOUDS.");
        for (int seed : SEEDS) {
            int[] lots = lotsOf(seed);
            for (int evening = 0; evening < 10; evening++) {
                EveningAuction x = Due.withBids(evening + "001");
                String asked = "wet(0, " + seed + ") of evening " + evening + " with clouds of ";
                x.evening(evening, 1, lots[evening]);
                b.is(asked + "its lot", x.wet(0, seed), 9);
                x.evening(evening, 1, lots[evening] + 1);
                b.is(asked + "one more", x.wet(0, seed), 0);
                x.evening(evening, 1, 0);
                b.is(asked + "0", x.wet(0, seed), 9);
                x.evening(evening, 1, 16);
                b.is(asked + "16", x.wet(0, seed), 0);
            }
        }
    }

    /** From 0 the seeds are 12345, 3554416254, 2802067423: upper halves 0, 54236, 42756; lots 0, 12, 4. */
    private void lots() {
        b.of(0, "LOTS of m: SEED becomes 1103515245 SEED and 12345, as ints that wrap; its upper 16 bits as a number"
            + " from 0 on, modulo m.");
        int[] want = {0, 12, 4};
        for (int evening = 0; evening < 3; evening++) {
            EveningAuction x = Due.withBids(evening + "001");
            x.evening(evening, 1, want[evening]);
            b.is("wet(0, 0) by a lot that is no less", x.wet(0, 0), 9);
            x.evening(evening, 1, want[evening] + 1);
            b.is("wet(0, 0) by a lot that is less", x.wet(0, 0), 0);
        }
        // Upper halves from 32768 on would be below 0, were they not numbers from 0 on.
        int above = 0;
        for (int seed : SEEDS) {
            int now = 1103515245 * seed + 12345;
            above += now < 0 ? 1 : 0;
            EveningAuction x = Due.withBids("0001");
            int lot = (int) ((now & 0xffffffffL) / 65536 % 16);
            x.evening(0, 1, lot);
            b.is("wet(0, " + seed + ") by its lot", x.wet(0, seed), 9);
            x.evening(0, 1, lot + 1);
            b.is("wet(0, " + seed + ") by one more", x.wet(0, seed), 0);
        }
        b.is("some seeds go below 0", above > 2 ? 1 : 0, 1);
    }

    // ---- fractions, sheets

    private void worthIs(int value, int clouds, long above, long below) {
        EveningAuction x = new EveningAuction();
        x.value(0, 0, value);
        x.evening(0, 1, clouds);
        b.is("worth of " + value + " with " + clouds + ", above", x.worth(0, 0, 0), above);
        b.is("worth of " + value + " with " + clouds + ", below", x.worth(0, 0, 1), below);
    }

    private void fractions() {
        b.of(0, "FRACTIONS are told in lowest terms, above and below (0 by 1).");
        worthIs(0, 0, 0, 1);
        worthIs(0, 5, 0, 1);
        worthIs(99, 16, 0, 1);
        worthIs(1, 15, 1, 16);
        worthIs(2, 15, 1, 8);
        worthIs(16, 15, 1, 1);
        worthIs(17, 15, 17, 16);
        worthIs(99, 0, 99, 1);
        worthIs(4, 10, 3, 2);
        EveningAuction x = new EveningAuction();
        b.is("share of nothing, above", x.share(0, 0), 0);
        b.is("share of nothing, below", x.share(0, 1), 1);
        for (int bidder = 0; bidder < 5; bidder++) {
            x.value(bidder, 0, 2);
        }
        b.is("share of 2 by five, above", x.share(4, 0), 2);
        b.is("share of 2 by five, below", x.share(4, 1), 5);
        for (int bidder = 0; bidder < 5; bidder++) {
            x.value(bidder, 0, 10);
        }
        b.is("share of 10 by five, above", x.share(4, 0), 2);
        b.is("share of 10 by five, below", x.share(4, 1), 1);
    }

    private void sheets() {
        b.of(0, "SHEETS 0 .. 3 are LOST (at first) or a row of a FORM: 0 bytes, 1 shorts, 2 ints, of 0 to 60 items"
            + " (0 at first).");
        for (int s = 0; s <= 3; s++) {
            EveningAuction x = new EveningAuction();
            b.is("lose(" + s + ") at first", x.lose(s), -11);
            for (int form = 0; form <= 2; form++) {
                b.is("sheet of no items", x.sheet(s, form, 0), 0);
                b.is("there is no item 0", x.get(s, form, 0), Bounds.MIN);
                b.is("sheet of one item", x.sheet(s, form, 1), 1);
                b.is("item 0", x.get(s, form, 0), 0);
                b.is("sheet of 59 items", x.sheet(s, form, 59), 59);
                b.is("sheet of 60 items", x.sheet(s, form, 60), 60);
                for (int i = 0; i < 60; i++) {
                    b.is("item " + i + " at first", x.get(s, form, i), 0);
                }
                b.is("there is no item 60", x.get(s, form, 60), Bounds.MIN);
            }
        }
        b.refused("sheet(-1, 0, 1)", y -> y.sheet(-1, 0, 1), Bounds.BAD);
        b.refused("sheet(4, 0, 1)", y -> y.sheet(4, 0, 1), Bounds.BAD);
        b.refused("sheet(0, -1, 1)", y -> y.sheet(0, -1, 1), Bounds.BAD);
        b.refused("sheet(0, 3, 1)", y -> y.sheet(0, 3, 1), Bounds.BAD);
        b.refused("sheet(0, 0, 61)", y -> y.sheet(0, 0, 61), Bounds.BAD);
    }

    private void findings() {
        b.of(0, "FINDINGS (answers -10 less the number; they change nothing but count() 8):");
        b.is("count(8) at first", new EveningAuction().count(8), 0);
        EveningAuction x = Bounds.withAll();
        int[] answers = {x.lose(3), x.count(8), x.lay(0, 2, 5, 1), x.count(8), x.lay(0, 1, 0, 1), x.count(8),
            x.copy(0, 0, 1, 0, 1), x.count(8), x.sheet(0, 2, -1), x.count(8)};
        int[] want = {-11, 1, -12, 2, -13, 3, -14, 4, -15, 5};
        for (int i = 0; i < want.length; i++) {
            b.is("answer " + i, answers[i], want[i]);
        }
        b.is("nothing but count(8) is another", Bounds.look(x).equals(Bounds.look(Bounds.withAll())) ? 1 : 0, 1);
        b.of(0, "1 NULL: the SHEET is LOST;");
        b.found("with all", Bounds::withAll, "lose(3)", y -> y.lose(3), Bounds.NULL);
        b.of(0, "2 INDEX: there is no such item;");
        b.found("with all", Bounds::withAll, "lay(0, 2, 5, 1)", y -> y.lay(0, 2, 5, 1), Bounds.INDEX);
        b.found("with all", Bounds::withAll, "lay(0, 2, -1, 1)", y -> y.lay(0, 2, -1, 1), Bounds.INDEX);
        b.of(0, "3 CAST: it has another FORM;");
        b.found("with all", Bounds::withAll, "lay(0, 1, 0, 1)", y -> y.lay(0, 1, 0, 1), Bounds.CAST);
        b.of(0, "4 STORE: unlike FORMS;");
        b.found("with all", Bounds::withAll, "copy(0, 0, 1, 0, 1)", y -> y.copy(0, 0, 1, 0, 1), Bounds.STORE);
        b.of(0, "5 SIZE: below 0.");
        b.found("with all", Bounds::withAll, "sheet(0, 2, -1)", y -> y.sheet(0, 2, -1), Bounds.SIZE);
        b.found("with all", Bounds::withAll, "sheet(3, 0, -1)", y -> y.sheet(3, 0, -1), Bounds.SIZE);
        b.is("sheet(3, 0, 0) is none", new EveningAuction().sheet(3, 0, 0), 0);
    }
}
