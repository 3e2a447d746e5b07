/** The bounds of promises 1 to 12, sentence by sentence. */
final class BidBounds {
    private final Bounds b;

    BidBounds(Bounds b) {
        this.b = b;
    }

    void all() {
        aNewObject();
        type();
        wipe();
        fault();
        undo();
        bidder();
        value();
        joy();
        evening();
        set();
        busy();
        read();
        readRefused();
    }

    private void aNewObject() {
        b.of(1, "No BIDS;");
        EveningAuction x = new EveningAuction();
        int[] counts = {0, 0, 0, 0, 0, 0, 1, 0, 0};
        for (int what = 0; what <= 8; what++) {
            b.is("count(" + what + ")", x.count(what), counts[what]);
        }
        b.is("fault()", x.fault(), Bounds.NONE);
        b.is("wipe()", x.wipe(), 0);
        b.is("undo()", x.undo(), Bounds.NOT);
        b.is("holds(0)", x.holds(0), Bounds.BAD);
        for (int evening = 0; evening < 10; evening++) {
            b.is("owner(" + evening + ")", x.owner(evening), Bounds.NONE);
        }
        b.of(1, "all SHEETS are LOST.");
        for (int s = 0; s < 4; s++) {
            int which = s;
            b.found("at first", EveningAuction::new, "lose(" + s + ")", y -> y.lose(which), Bounds.NULL);
        }
    }

    private void type() {
        b.of(2, "A byte (0 to 255) comes behind BIDS: how many.");
        EveningAuction x = new EveningAuction();
        int[] bytes = {0, 1, 254, 255};
        for (int i = 0; i < bytes.length; i++) {
            b.is("type(" + bytes[i] + ")", x.type(bytes[i]), i + 1);
        }
        EveningAuction y = new EveningAuction();
        for (int n = 1; n <= 100; n++) {
            b.is("type('0') as byte " + n, y.type('0'), n);
        }
        EveningAuction z = Due.withBids("000");
        z.type('7');
        b.is("price(0): it came behind", z.price(0), 7);
        b.of(2, "BAD;");
        for (int wrong : new int[] {-1, 256, 304, Bounds.MIN, Bounds.MAX}) {
            b.refused("type(" + wrong + ")", a -> a.type(wrong), Bounds.BAD);
            b.refusedIn("when full", Bounds::withHundredBytes, "type(" + wrong + ")", a -> a.type(wrong), Bounds.BAD);
        }
        b.of(2, "FULL.");
        for (int well : new int[] {0, '0', ';', 255}) {
            b.refusedIn("when full", Bounds::withHundredBytes, "type(" + well + ")", a -> a.type(well), Bounds.FULL);
        }
        b.is("type(';') as byte 100", Bounds.withTwentyBids().type(';'), 100);
    }

    private void wipe() {
        b.of(3, "BIDS are empty: how many bytes they had.");
        b.is("wipe() of none", new EveningAuction().wipe(), 0);
        b.is("wipe() of one byte", Due.withBids("0").wipe(), 1);
        b.is("wipe() of 99", Bounds.withTwentyBids().wipe(), 99);
        EveningAuction x = Bounds.withHundredBytes();
        b.is("wipe() of 100", x.wipe(), 100);
        b.is("wipe() again", x.wipe(), 0);
        b.is("count(1)", x.count(1), 0);
        b.is("fault()", x.fault(), Bounds.NONE);
        b.is("owner(0)", x.owner(0), Bounds.NONE);
        b.is("type('3') when there is room again", x.type('3'), 1);
        EveningAuction y = Bounds.withAll();
        y.wipe();
        b.is("purses are left", y.bidder(0, 0, 1), 77);
        b.is("values are left", y.value(1, 1, 1), 40);
        b.is("seen are left", y.count(5), 2);
        b.is("sheets are left", y.get(0, 2, 4), 9);
    }

    private void fault() {
        b.of(4, "The FAULT;");
        b.is("fault() at 0", Due.withBids("x").fault(), 0);
        b.is("fault() at the end of one byte", Due.withBids("0").fault(), 1);
        b.is("fault() at 99", Due.withBids(Bounds.bids(20) + "0").fault(), 99);
        b.is("fault() at 100", Bounds.withHundredBytes().fault(), 100);
        b.of(4, "NONE.");
        b.is("fault() of none", new EveningAuction().fault(), Bounds.NONE);
        b.is("fault() of one", Due.withBids("9499").fault(), Bounds.NONE);
        b.is("fault() of twenty", Bounds.withTwentyBids().fault(), Bounds.NONE);
    }

    private void undo() {
        b.of(5, "The last BID is undone, with the ; ahead of it: how many BIDS are left.");
        EveningAuction x = Bounds.withTwentyBids();
        for (int left = 19; left >= 0; left--) {
            b.is("undo()", x.undo(), left);
            b.is("count(0)", x.count(0), left);
            b.is("count(1)", x.count(1), left == 0 ? 0 : 5 * left - 1);
            b.is("fault()", x.fault(), Bounds.NONE);
        }
        EveningAuction y = Due.withBids("0010;0020");
        b.is("undo() of one that does not hold", y.undo(), 1);
        b.is("owner(0)", y.owner(0), 0);
        Due.type(y, ";0111");
        b.is("owner(0) with another behind it", y.owner(0), 1);
        b.of(5, "NOT: there are none.");
        b.refusedIn("of none", EveningAuction::new, "undo()", z -> z.undo(), Bounds.NOT);
        b.refusedIn("with a fault", Bounds::withFault, "undo()", z -> z.undo(), Bounds.NOT);
        b.refusedIn("with ; behind", () -> Due.withBids("0010;"), "undo()", z -> z.undo(), Bounds.NOT);
        b.refusedIn("with 100 bytes", Bounds::withHundredBytes, "undo()", z -> z.undo(), Bounds.NOT);
        b.is("undo() when all is undone", x.undo(), Bounds.NOT);
    }

    private void bidder() {
        b.of(6, "PURSE (what = 0), PROGRAMME (1) of a BIDDER: what it was.");
        for (int who = 0; who < 5; who++) {
            EveningAuction x = new EveningAuction();
            b.is("purse", x.bidder(who, 0, 999), 100);
            b.is("purse", x.bidder(who, 0, 0), 999);
            b.is("programme", x.bidder(who, 1, 4), who);
            b.is("programme", x.bidder(who, 1, 0), 4);
            b.is("purse is left", x.bidder(who, 0, 5), 0);
            b.is("programme is left", x.bidder(who, 1, 1), 0);
            int next = (who + 1) % 5;
            b.is("purse of another", x.bidder(next, 0, 1), 100);
            b.is("programme of another", x.bidder(next, 1, 1), next);
        }
        b.of(6, "BAD.");
        int[][] wrong = {{-1, 0, 0}, {5, 0, 0}, {0, -1, 0}, {0, 2, 0}, {0, 0, -1}, {0, 0, 1000}, {0, 1, -1},
            {0, 1, 5}, {4, 0, 1000}, {4, 1, 5}, {0, Bounds.MIN, 0}, {0, Bounds.MAX, 0}, {0, 0, Bounds.MIN},
            {0, 0, Bounds.MAX}, {0, 1, Bounds.MIN}, {0, 1, Bounds.MAX}, {0, 1, 999}};
        for (int[] w : wrong) {
            b.refused("bidder(" + w[0] + ", " + w[1] + ", " + w[2] + ")", x -> x.bidder(w[0], w[1], w[2]), Bounds.BAD);
        }
    }

    private void value() {
        b.of(7, "VALUE of an EVENING to a BIDDER: what it was.");
        EveningAuction x = new EveningAuction();
        b.is("value(0, 0, 99)", x.value(0, 0, 99), 0);
        b.is("value(4, 9, 1)", x.value(4, 9, 1), 0);
        b.is("value(0, 0, 0)", x.value(0, 0, 0), 99);
        b.is("value(4, 9, 99)", x.value(4, 9, 99), 1);
        b.is("value(4, 0, 5)", x.value(4, 0, 5), 0);
        b.is("value(0, 9, 5)", x.value(0, 9, 5), 0);
        b.of(7, "BAD.");
        int[][] wrong = {{-1, 0, 0}, {5, 0, 0}, {0, -1, 0}, {0, 10, 0}, {0, 0, -1}, {0, 0, 100}, {4, 9, 100},
            {0, 0, Bounds.MIN}, {0, 0, Bounds.MAX}};
        for (int[] w : wrong) {
            b.refused("value(" + w[0] + ", " + w[1] + ", " + w[2] + ")", y -> y.value(w[0], w[1], w[2]), Bounds.BAD);
        }
    }

    private void joy() {
        b.of(8, "JOY of a PROGRAMME to a BIDDER: what it was.");
        EveningAuction x = new EveningAuction();
        b.is("joy(0, 0, 0)", x.joy(0, 0, 0), 9);
        b.is("joy(4, 4, 9)", x.joy(4, 4, 9), 9);
        b.is("joy(0, 4, 9)", x.joy(0, 4, 9), 0);
        b.is("joy(4, 0, 1)", x.joy(4, 0, 1), 0);
        b.is("joy(0, 0, 1)", x.joy(0, 0, 1), 0);
        b.is("joy(0, 4, 1)", x.joy(0, 4, 1), 9);
        b.of(8, "BAD.");
        int[][] wrong = {{-1, 0, 0}, {5, 0, 0}, {0, -1, 0}, {0, 5, 0}, {0, 0, -1}, {0, 0, 10}, {4, 4, 10},
            {0, Bounds.MIN, 0}, {0, Bounds.MAX, 0}, {0, 0, Bounds.MIN}, {0, 0, Bounds.MAX}};
        for (int[] w : wrong) {
            b.refused("joy(" + w[0] + ", " + w[1] + ", " + w[2] + ")", y -> y.joy(w[0], w[1], w[2]), Bounds.BAD);
        }
    }

    private void evening() {
        b.of(9, "RESERVE (what = 0), CLOUDS (1) of an EVENING: what it was.");
        EveningAuction x = new EveningAuction();
        for (int evening : new int[] {0, 9}) {
            b.is("reserve", x.evening(evening, 0, 99), 0);
            b.is("clouds", x.evening(evening, 1, 16), 0);
            b.is("reserve", x.evening(evening, 0, 0), 99);
            b.is("clouds", x.evening(evening, 1, 0), 16);
        }
        b.is("reserve of another", x.evening(5, 0, 1), 0);
        b.is("clouds of another", x.evening(5, 1, 1), 0);
        b.of(9, "BAD.");
        int[][] wrong = {{-1, 0, 0}, {10, 0, 0}, {0, -1, 0}, {0, 2, 0}, {0, 0, -1}, {0, 0, 100}, {0, 1, -1},
            {0, 1, 17}, {9, 0, 100}, {9, 1, 17}, {0, 1, 99}, {0, Bounds.MIN, 0}, {0, Bounds.MAX, 0},
            {0, 0, Bounds.MIN}, {0, 0, Bounds.MAX}, {0, 1, Bounds.MIN}, {0, 1, Bounds.MAX}};
        for (int[] w : wrong) {
            b.refused("evening(" + w[0] + ", " + w[1] + ", " + w[2] + ")", y -> y.evening(w[0], w[1], w[2]),
                Bounds.BAD);
        }
    }

    private void set() {
        b.of(10, "STEP (what = 0), LAW (1; 0, 1), MOST (2): what it was.");
        EveningAuction x = new EveningAuction();
        b.is("step", x.set(0, 20), 1);
        b.is("law", x.set(1, 1), 0);
        b.is("most", x.set(2, 1), 10);
        b.is("step", x.set(0, 1), 20);
        b.is("law", x.set(1, 0), 1);
        b.is("most", x.set(2, 10), 1);
        b.is("law", x.set(1, 0), 0);
        b.of(10, "BAD.");
        int[][] wrong = {{-1, 1}, {3, 1}, {0, 0}, {0, 21}, {0, -1}, {1, -1}, {1, 2}, {2, 0}, {2, 11}, {2, -1},
            {Bounds.MIN, 1}, {Bounds.MAX, 1}, {0, Bounds.MIN}, {0, Bounds.MAX}, {1, Bounds.MIN}, {1, Bounds.MAX},
            {2, Bounds.MIN}, {2, Bounds.MAX}};
        for (int[] w : wrong) {
            b.refused("set(" + w[0] + ", " + w[1] + ")", y -> y.set(w[0], w[1]), Bounds.BAD);
        }
    }

    private void busy() {
        b.of(11, "BUSY: what it was.");
        EveningAuction x = new EveningAuction();
        b.is("busy(0, 0, 1)", x.busy(0, 0, 1), 0);
        b.is("busy(4, 9, 1)", x.busy(4, 9, 1), 0);
        b.is("busy(0, 0, 0)", x.busy(0, 0, 0), 1);
        b.is("busy(4, 9, 0)", x.busy(4, 9, 0), 1);
        b.is("busy(4, 0, 1)", x.busy(4, 0, 1), 0);
        b.is("busy(0, 9, 1)", x.busy(0, 9, 1), 0);
        b.of(11, "BAD.");
        int[][] wrong = {{-1, 0, 0}, {5, 0, 0}, {0, -1, 0}, {0, 10, 0}, {0, 0, -1}, {0, 0, 2}, {4, 9, 2},
            {0, 0, Bounds.MIN}, {0, 0, Bounds.MAX}};
        for (int[] w : wrong) {
            b.refused("busy(" + w[0] + ", " + w[1] + ", " + w[2] + ")", y -> y.busy(w[0], w[1], w[2]), Bounds.BAD);
        }
    }

    private void valuesAre(EveningAuction x, int bidder, int... want) {
        for (int evening = 0; evening < 10; evening++) {
            b.is("value of " + evening, x.value(bidder, evening, 0), evening < want.length ? want[evening] : 0);
        }
    }

    private void read() {
        b.of(12, "VALUES of EVENINGS 0 on to a BIDDER by a SHEET, item by item, as long as each may be,");
        EveningAuction x = new EveningAuction();
        Due.ints(x, 0, 0, 99, 1, 98);
        b.is("read(0, 0)", x.read(0, 0), 4);
        valuesAre(x, 0, 0, 99, 1, 98);
        valuesAre(x, 1);
        for (int wrong : new int[] {-1, 100, Bounds.MIN, Bounds.MAX}) {
            for (int place = 0; place < 5; place++) {
                EveningAuction y = new EveningAuction();
                Due.ints(y, 3, 11, 12, 13, 14, 15);
                y.lay(3, 2, place, wrong);
                b.is("read(3, 4) with " + wrong + " at " + place, y.read(3, 4), place);
                int[] want = new int[place];
                for (int i = 0; i < place; i++) {
                    want[i] = 11 + i;
                }
                valuesAre(y, 4, want);
            }
        }
        EveningAuction bytes = new EveningAuction();
        bytes.sheet(0, 0, 2);
        bytes.lay(0, 0, 0, 99);
        bytes.lay(0, 0, 1, 255);
        b.is("read(0, 2) of bytes", bytes.read(0, 2), 1);
        b.of(12, "ten at most: how many.");
        int[] sizes = {0, 1, 9, 10, 11, 60};
        int[] want = {0, 1, 9, 10, 10, 10};
        for (int i = 0; i < sizes.length; i++) {
            for (int form = 0; form < 3; form++) {
                EveningAuction y = Bounds.withSheet(form, sizes[i]);
                b.is("read(0, 0) of " + sizes[i] + " items", y.read(0, 0), want[i]);
            }
        }
        EveningAuction eleven = new EveningAuction();
        Due.ints(eleven, 0, 1, 2, 3, 4, 5, 6, 7, 8, 9, 10, -1);
        b.is("read(0, 0): the eleventh is not looked at", eleven.read(0, 0), 10);
        valuesAre(eleven, 0, 1, 2, 3, 4, 5, 6, 7, 8, 9, 10);
    }

    private void readRefused() {
        b.of(12, "BAD;");
        int[][] wrong = {{-1, 0}, {4, 0}, {0, -1}, {0, 5}, {3, 5}, {Bounds.MIN, 0}, {Bounds.MAX, 0},
            {0, Bounds.MIN}, {0, Bounds.MAX}};
        for (int[] w : wrong) {
            b.refused("read(" + w[0] + ", " + w[1] + ")", x -> x.read(w[0], w[1]), Bounds.BAD);
        }
        b.of(12, "NULL.");
        for (int s = 0; s < 4; s++) {
            int which = s;
            b.found("at first", EveningAuction::new, "read(" + s + ", 0)", x -> x.read(which, 0), Bounds.NULL);
        }
        b.found("with all", Bounds::withAll, "read(3, 4)", x -> x.read(3, 4), Bounds.NULL);
    }
}
