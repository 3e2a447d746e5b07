/** Promises 1 to 12: a new object; bidders, bids. */
public final class BidsTest {
    private static final int BAD = -2, NOT = -3, FULL = -4, NULL = -11;
    private static final int MIN = Integer.MIN_VALUE, MAX = Integer.MAX_VALUE;
    private static final Due due = new Due("BidsTest");

    public static void main(String[] args) {
        aNewObject();
        type();
        wipe();
        fault();
        undo();
        bidder();
        value();
        joy();
        evening();
        set();
        busy();
        read();
        due.finish();
    }

    private static void aNewObject() {
        EveningAuction x = new EveningAuction();
        for (int what = 0; what <= 8; what++) {
            due.is("1 count(" + what + ")", x.count(what), what == 6 ? 1 : 0);
        }
        due.is("1 fault()", x.fault(), -1);
        for (int s = 0; s < 4; s++) {
            due.is("1 lose(" + s + ")", x.lose(s), NULL);
        }
        for (int bidder = 0; bidder < 5; bidder++) {
            due.is("1 purse", x.bidder(bidder, 0, 0), 100);
            due.is("1 programme", x.bidder(bidder, 1, 0), bidder);
            for (int programme = 0; programme < 5; programme++) {
                due.is("1 joy", x.joy(bidder, programme, 1), programme == bidder ? 9 : 0);
            }
            for (int evening = 0; evening < 10; evening++) {
                due.is("1 value", x.value(bidder, evening, 1), 0);
                due.is("1 busy", x.busy(bidder, evening, 1), 0);
            }
        }
        for (int evening = 0; evening < 10; evening++) {
            due.is("1 reserve", x.evening(evening, 0, 1), 0);
            due.is("1 clouds", x.evening(evening, 1, 1), 0);
        }
        due.is("1 step", x.set(0, 2), 1);
        due.is("1 law", x.set(1, 1), 0);
        due.is("1 most", x.set(2, 1), 10);
    }

    private static void type() {
        EveningAuction x = new EveningAuction();
        for (int b : new int[] {-1, 256, MIN, MAX}) {
            due.is("2 type(" + b + ")", x.type(b), BAD);
        }
        due.is("2 count(1) behind refusals", x.count(1), 0);
        for (int n = 1; n <= 100; n++) {
            due.is("2 type", x.type(n % 2 == 0 ? 0 : 255), n);
        }
        due.is("2 type when full", x.type(48), FULL);
        due.is("2 bad type when full", x.type(256), BAD);
        due.is("2 count(1) when full", x.count(1), 100);
    }

    private static void wipe() {
        EveningAuction x = Due.withBids("0010;1x");
        due.is("3 wipe()", x.wipe(), 7);
        due.is("3 wipe() again", x.wipe(), 0);
        due.is("3 fault()", x.fault(), -1);
        Due.type(x, "0010");
        due.is("3 owner(0)", x.owner(0), 0);
        x.wipe();
        due.is("3 owner(0) behind wipe", x.owner(0), -1);
    }

    private static void faultOf(String text, int want) {
        EveningAuction x = Due.withBids(text);
        due.is("4 fault() of " + text, x.fault(), want);
        due.is("4 count(0) of " + text, x.count(0), want == -1 ? (text.length() + 1) / 5 : 0);
    }

    private static void fault() {
        faultOf("", -1);
        faultOf("0", 1);
        faultOf("00", 2);
        faultOf("001", 3);
        faultOf("0001", -1);
        faultOf("9499", -1);
        faultOf("0010", -1);
        faultOf("0000", 3);
        faultOf("0000;", 3);
        faultOf("0000;x", 3);
        faultOf("0501", 1);
        faultOf("/001", 0);
        faultOf(":001", 0);
        faultOf("0/01", 1);
        faultOf("00/1", 2);
        faultOf("00:1", 2);
        faultOf("000/", 3);
        faultOf("000:", 3);
        faultOf(";", 0);
        faultOf(" ", 0);
        faultOf("0001;", 5);
        faultOf("0001;;", 5);
        faultOf("0001:", 4);
        faultOf("00010", 4);
        faultOf("0001;0", 6);
        faultOf("0001;0102", -1);
        faultOf("0001;0100", 8);
        faultOf("0001;0602;x", 6);
        faultOf("\u00ff", 0);
        String twenty = "0001" + ";1102".repeat(19);
        faultOf(twenty, -1);
        faultOf(twenty + ";", 100);
        faultOf(twenty + "x", 99);
        faultOf("0001;".repeat(20), 100);
    }

    private static void undo() {
        EveningAuction x = new EveningAuction();
        due.is("5 undo() of none", x.undo(), NOT);
        Due.type(x, "0010;0112;2305");
        due.is("5 undo()", x.undo(), 2);
        due.is("5 bytes left", x.count(1), 9);
        due.is("5 owner(2)", x.owner(2), -1);
        due.is("5 owner(0)", x.owner(0), 1);
        due.is("5 undo()", x.undo(), 1);
        due.is("5 bytes left", x.count(1), 4);
        due.is("5 owner(0)", x.owner(0), 0);
        due.is("5 undo()", x.undo(), 0);
        due.is("5 bytes left", x.count(1), 0);
        due.is("5 owner(0)", x.owner(0), -1);
        due.is("5 undo() of none left", x.undo(), NOT);
        Due.type(x, "0010;");
        due.is("5 undo() with a fault", x.undo(), NOT);
        due.is("5 bytes behind a refusal", x.count(1), 5);
        Due.type(x, "0111");
        due.is("5 undo() mended", x.undo(), 1);
    }

    private static void bidder() {
        EveningAuction x = new EveningAuction();
        due.is("6 purse", x.bidder(4, 0, 999), 100);
        due.is("6 purse", x.bidder(4, 0, 0), 999);
        due.is("6 purse", x.bidder(4, 0, 7), 0);
        due.is("6 purse of another", x.bidder(3, 0, 100), 100);
        due.is("6 programme", x.bidder(4, 1, 0), 4);
        due.is("6 programme", x.bidder(4, 1, 4), 0);
        int[][] wrong = {{-1, 0, 0}, {5, 0, 0}, {0, -1, 0}, {0, 2, 0}, {0, 0, -1}, {0, 0, 1000}, {0, 1, -1},
            {0, 1, 5}, {MIN, 0, 0}, {MAX, 0, 0}, {0, MIN, 0}, {0, 0, MIN}, {0, 0, MAX}, {0, 1, MIN}};
        for (int[] w : wrong) {
            due.is("6 bidder(" + w[0] + ", " + w[1] + ", " + w[2] + ")", x.bidder(w[0], w[1], w[2]), BAD);
        }
        due.is("6 purse behind refusals", x.bidder(0, 0, 100), 100);
        due.is("6 programme behind refusals", x.bidder(0, 1, 0), 0);
    }

    private static void value() {
        EveningAuction x = new EveningAuction();
        due.is("7 value", x.value(4, 9, 99), 0);
        due.is("7 value", x.value(4, 9, 0), 99);
        due.is("7 value", x.value(0, 0, 5), 0);
        int[][] wrong = {{-1, 0, 0}, {5, 0, 0}, {0, -1, 0}, {0, 10, 0}, {0, 0, -1}, {0, 0, 100},
            {MIN, MIN, MIN}, {MAX, MAX, MAX}};
        for (int[] w : wrong) {
            due.is("7 value(" + w[0] + ", " + w[1] + ", " + w[2] + ")", x.value(w[0], w[1], w[2]), BAD);
        }
        due.is("7 value behind refusals", x.value(0, 0, 5), 5);
    }

    private static void joy() {
        EveningAuction x = new EveningAuction();
        due.is("8 joy", x.joy(4, 4, 0), 9);
        due.is("8 joy", x.joy(4, 3, 9), 0);
        due.is("8 joy", x.joy(4, 3, 1), 9);
        int[][] wrong = {{-1, 0, 0}, {5, 0, 0}, {0, -1, 0}, {0, 5, 0}, {0, 0, -1}, {0, 0, 10},
            {MIN, MIN, MIN}, {MAX, MAX, MAX}};
        for (int[] w : wrong) {
            due.is("8 joy(" + w[0] + ", " + w[1] + ", " + w[2] + ")", x.joy(w[0], w[1], w[2]), BAD);
        }
        due.is("8 joy behind refusals", x.joy(0, 0, 9), 9);
    }

    private static void evening() {
        EveningAuction x = new EveningAuction();
        due.is("9 reserve", x.evening(9, 0, 99), 0);
        due.is("9 reserve", x.evening(9, 0, 3), 99);
        due.is("9 clouds", x.evening(9, 1, 16), 0);
        due.is("9 clouds", x.evening(9, 1, 0), 16);
        int[][] wrong = {{-1, 0, 0}, {10, 0, 0}, {0, -1, 0}, {0, 2, 0}, {0, 0, -1}, {0, 0, 100}, {0, 1, -1},
            {0, 1, 17}, {MIN, MIN, MIN}, {MAX, MAX, MAX}};
        for (int[] w : wrong) {
            due.is("9 evening(" + w[0] + ", " + w[1] + ", " + w[2] + ")", x.evening(w[0], w[1], w[2]), BAD);
        }
        due.is("9 reserve behind refusals", x.evening(0, 0, 0), 0);
        due.is("9 clouds behind refusals", x.evening(0, 1, 0), 0);
    }

    private static void set() {
        EveningAuction x = new EveningAuction();
        due.is("10 step", x.set(0, 20), 1);
        due.is("10 step", x.set(0, 1), 20);
        due.is("10 law", x.set(1, 1), 0);
        due.is("10 law", x.set(1, 0), 1);
        due.is("10 most", x.set(2, 1), 10);
        due.is("10 most", x.set(2, 10), 1);
        int[][] wrong = {{-1, 1}, {3, 1}, {0, 0}, {0, 21}, {1, -1}, {1, 2}, {2, 0}, {2, 11},
            {MIN, 1}, {MAX, 1}, {0, MIN}, {0, MAX}};
        for (int[] w : wrong) {
            due.is("10 set(" + w[0] + ", " + w[1] + ")", x.set(w[0], w[1]), BAD);
        }
        due.is("10 step behind refusals", x.set(0, 1), 1);
        due.is("10 law behind refusals", x.set(1, 0), 0);
        due.is("10 most behind refusals", x.set(2, 10), 10);
    }

    private static void busy() {
        EveningAuction x = new EveningAuction();
        due.is("11 busy", x.busy(4, 9, 1), 0);
        due.is("11 busy", x.busy(4, 9, 1), 1);
        due.is("11 busy", x.busy(4, 9, 0), 1);
        due.is("11 busy", x.busy(4, 9, 0), 0);
        int[][] wrong = {{-1, 0, 0}, {5, 0, 0}, {0, -1, 0}, {0, 10, 0}, {0, 0, -1}, {0, 0, 2},
            {MIN, MIN, MIN}, {MAX, MAX, MAX}};
        for (int[] w : wrong) {
            due.is("11 busy(" + w[0] + ", " + w[1] + ", " + w[2] + ")", x.busy(w[0], w[1], w[2]), BAD);
        }
        due.is("11 busy behind refusals", x.busy(0, 0, 0), 0);
    }

    private static void read() {
        EveningAuction x = new EveningAuction();
        for (int evening = 0; evening < 10; evening++) {
            x.value(2, evening, 50);
        }
        Due.ints(x, 0, 0, 99, 7, 100, 8);
        due.is("12 read until one above", x.read(0, 2), 3);
        int[] want = {0, 99, 7, 50, 50, 50, 50, 50, 50, 50};
        for (int evening = 0; evening < 10; evening++) {
            due.is("12 value behind read", x.value(2, evening, want[evening]), want[evening]);
        }
        Due.ints(x, 0, -1, 5);
        due.is("12 read with the first below", x.read(0, 2), 0);
        due.is("12 value behind none", x.value(2, 0, 0), 0);
        Due.ints(x, 0, 1, 2, 3, 4, 5, 6, 7, 8, 9, 10, 11, 12);
        due.is("12 read of twelve", x.read(0, 4), 10);
        due.is("12 last value", x.value(4, 9, 0), 10);
        x.sheet(1, 0, 0);
        due.is("12 read of an empty sheet", x.read(1, 0), 0);
        x.sheet(1, 0, 2);
        x.lay(1, 0, 0, 9);
        x.lay(1, 0, 1, 200);
        due.is("12 read of bytes", x.read(1, 0), 1);
        due.is("12 value of bytes", x.value(0, 0, 0), 9);
        x.each(-1);
        x.lay(1, 0, 0, 77);
        x.read(1, 0);
        due.is("12 each behind read", x.each(-1), 77 + 10 - 1 + 99);
        due.is("12 read(3, 5): bad ahead of lost", x.read(3, 5), BAD);
        due.is("12 count(8) behind bad", x.count(8), 0);
        due.is("12 read(3, 0)", x.read(3, 0), NULL);
        due.is("12 count(8)", x.count(8), 1);
        for (int s : new int[] {-1, 4, MIN, MAX}) {
            due.is("12 read(" + s + ", 0)", x.read(s, 0), BAD);
            due.is("12 read(0, " + (s == 4 ? 5 : s) + ")", x.read(0, s == 4 ? 5 : s), BAD);
        }
    }
}
