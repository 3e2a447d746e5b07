/** Promises 34 to 41: sheets, counts, the digest. */
public final class SheetsTest {
    private static final int BAD = -2, NULL = -11, INDEX = -12, CAST = -13, STORE = -14, SIZE = -15;
    private static final int MIN = Integer.MIN_VALUE, MAX = Integer.MAX_VALUE;
    private static final int[] NO_SHEETS = {-1, 4, MIN, MAX};
    private static final Due due = new Due("SheetsTest");

    public static void main(String[] args) {
        sheet();
        lose();
        lay();
        get();
        copy();
        copyOntoItself();
        copyRefused();
        write();
        count();
        countFindings();
        digestOfNothing();
        digestIsOfItsParts();
        due.finish();
    }

    private static void sheet() {
        EveningAuction x = new EveningAuction();
        due.is("34 sheet(0, 0, 0)", x.sheet(0, 0, 0), 0);
        due.is("34 sheet(3, 2, 60)", x.sheet(3, 2, 60), 60);
        x.lay(3, 2, 59, 5);
        due.is("34 sheet(3, 2, 61)", x.sheet(3, 2, 61), BAD);
        due.is("34 sheet(3, 2, -1)", x.sheet(3, 2, -1), SIZE);
        due.is("34 count(8)", x.count(8), 5);
        due.is("34 the row is left", x.get(3, 2, 59), 5);
        due.is("34 sheet(3, 2, 60) anew", x.sheet(3, 2, 60), 60);
        due.is("34 items at first", x.get(3, 2, 59), 0);
        due.is("34 sheet(1, 1, least)", x.sheet(1, 1, MIN), SIZE);
        due.is("34 sheet(1, 1, greatest)", x.sheet(1, 1, MAX), BAD);
        due.is("34 sheet(1, 3, -1): bad ahead of size", x.sheet(1, 3, -1), BAD);
        due.is("34 sheet(1, -1, 1)", x.sheet(1, -1, 1), BAD);
        due.is("34 lose(1): none was made", x.lose(1), NULL);
        for (int s : NO_SHEETS) {
            due.is("34 sheet(" + s + ", 0, 1)", x.sheet(s, 0, 1), BAD);
            due.is("34 sheet(" + s + ", 0, -1)", x.sheet(s, 0, -1), BAD);
        }
    }

    private static void lose() {
        EveningAuction x = new EveningAuction();
        x.sheet(2, 1, 17);
        due.is("35 lose(2)", x.lose(2), 17);
        due.is("35 lose(2) again", x.lose(2), NULL);
        due.is("35 count(8)", x.count(8), 1);
        x.sheet(2, 1, 0);
        due.is("35 lose(2) of no items", x.lose(2), 0);
        for (int s : NO_SHEETS) {
            due.is("35 lose(" + s + ")", x.lose(s), BAD);
        }
    }

    private static void laid(EveningAuction x, int form, int v, int want) {
        due.is("36 lay(0, " + form + ", 1, " + v + ")", x.lay(0, form, 1, v), 1);
        due.is("36 get(0, " + form + ", 1)", x.get(0, form, 1), want);
    }

    private static void lay() {
        EveningAuction x = new EveningAuction();
        x.sheet(0, 0, 2);
        laid(x, 0, 127, 127);
        laid(x, 0, 128, -128);
        laid(x, 0, 0x12345678, 0x78);
        laid(x, 0, -129, 127);
        x.sheet(0, 1, 2);
        laid(x, 1, 32767, 32767);
        laid(x, 1, 32768, -32768);
        laid(x, 1, 0x12345678, 0x5678);
        x.sheet(0, 2, 2);
        laid(x, 2, MIN, MIN);
        laid(x, 2, MAX, MAX);
        due.is("36 another item", x.get(0, 2, 0), 0);
        due.is("36 lay(0, 1, 9, 1): cast ahead of index", x.lay(0, 1, 9, 1), CAST);
        due.is("36 count(8)", x.count(8), 3);
        due.is("36 lay(0, 2, 2, 1)", x.lay(0, 2, 2, 1), INDEX);
        due.is("36 count(8)", x.count(8), 2);
        due.is("36 lay(0, 2, -1, 1)", x.lay(0, 2, -1, 1), INDEX);
        due.is("36 lay(0, 2, least, 1)", x.lay(0, 2, MIN, 1), INDEX);
        due.is("36 lay(0, 2, greatest, 1)", x.lay(0, 2, MAX, 1), INDEX);
        due.is("36 lay(1, 2, 0, 1) of a lost one", x.lay(1, 2, 0, 1), NULL);
        due.is("36 count(8)", x.count(8), 1);
        due.is("36 lay(1, 3, 0, 1): bad ahead of lost", x.lay(1, 3, 0, 1), BAD);
        due.is("36 lay(0, -1, 0, 1)", x.lay(0, -1, 0, 1), BAD);
        for (int s : NO_SHEETS) {
            due.is("36 lay(" + s + ", 0, 0, 0)", x.lay(s, 0, 0, 0), BAD);
        }
    }

    private static void getRefused(EveningAuction x, int s, int form, int i, int finding) {
        String asked = "37 get(" + s + ", " + form + ", " + i + ")";
        due.is(asked, x.get(s, form, i), MIN);
        due.is(asked + " count(8)", x.count(8), finding);
    }

    private static void get() {
        EveningAuction x = new EveningAuction();
        x.sheet(0, 1, 3);
        x.lay(0, 1, 2, 44);
        due.is("37 get(0, 1, 2)", x.get(0, 1, 2), 44);
        getRefused(x, 4, 1, 0, 0);
        getRefused(x, -1, 1, 0, 0);
        getRefused(x, 0, 3, 0, 0);
        getRefused(x, 0, -1, 0, 0);
        getRefused(x, 1, 3, 0, 0);
        getRefused(x, 1, 1, 0, 1);
        getRefused(x, 0, 2, 0, 3);
        getRefused(x, 0, 1, 3, 2);
        getRefused(x, 0, 0, 3, 3);
        getRefused(x, 0, 1, -1, 2);
        getRefused(x, MIN, 1, 0, 2);
        getRefused(x, 1, 1, 0, 1);
        getRefused(x, 0, 1, MAX, 2);
        getRefused(x, 0, 1, MIN, 2);
    }

    private static void itemsAre(EveningAuction x, int s, int... want) {
        for (int i = 0; i < want.length; i++) {
            due.is("38 get(" + s + ", 2, " + i + ")", x.get(s, 2, i), want[i]);
        }
    }

    private static void copy() {
        EveningAuction x = new EveningAuction();
        Due.ints(x, 0, 1, 2, 3, 4);
        Due.ints(x, 1, 9, 9, 9);
        due.is("38 copy(0, 1, 1, 0, 2)", x.copy(0, 1, 1, 0, 2), 1);
        itemsAre(x, 1, 2, 3, 9);
        due.is("38 copy(0, 0, 1, 0, 3)", x.copy(0, 0, 1, 0, 3), 1);
        itemsAre(x, 1, 1, 2, 3);
        due.is("38 copy(0, 3, 1, 2, 1)", x.copy(0, 3, 1, 2, 1), 1);
        itemsAre(x, 1, 1, 2, 4);
        due.is("38 copy(0, 4, 1, 3, 0)", x.copy(0, 4, 1, 3, 0), 1);
        itemsAre(x, 0, 1, 2, 3, 4);
        x.lay(1, 2, 0, 77);
        due.is("38 the items are its own", x.get(0, 2, 0), 1);
    }

    private static void copyOntoItself() {
        EveningAuction x = new EveningAuction();
        Due.ints(x, 0, 1, 2, 3, 4, 5);
        due.is("38 copy(0, 0, 0, 1, 4)", x.copy(0, 0, 0, 1, 4), 1);
        itemsAre(x, 0, 1, 1, 2, 3, 4);
        due.is("38 copy(0, 1, 0, 0, 4)", x.copy(0, 1, 0, 0, 4), 1);
        itemsAre(x, 0, 1, 2, 3, 4, 4);
    }

    private static void copyIs(EveningAuction x, int i, int t, int j, int n, int want) {
        due.is("38 copy(0, " + i + ", " + t + ", " + j + ", " + n + ")", x.copy(0, i, t, j, n), want);
    }

    private static void copyRefused() {
        EveningAuction x = new EveningAuction();
        Due.ints(x, 0, 1, 2, 3, 4);
        Due.ints(x, 1, 5, 6);
        x.sheet(2, 1, 4);
        copyIs(x, 0, 1, 0, 3, INDEX);
        copyIs(x, 3, 1, 0, 2, INDEX);
        copyIs(x, 0, 1, 1, 2, INDEX);
        copyIs(x, -1, 1, 0, 1, INDEX);
        copyIs(x, 0, 1, -1, 1, INDEX);
        copyIs(x, 0, 1, 0, -1, INDEX);
        copyIs(x, 5, 1, 0, 0, INDEX);
        copyIs(x, 0, 1, 3, 0, INDEX);
        copyIs(x, MAX, 1, 0, MAX, INDEX);
        copyIs(x, 1, 1, 0, MAX, INDEX);
        copyIs(x, MIN, 1, 0, MIN, INDEX);
        copyIs(x, 0, 1, MAX, 1, INDEX);
        due.is("38 count(8)", x.count(8), 2);
        copyIs(x, -1, 2, 0, 99, STORE);
        due.is("38 count(8)", x.count(8), 4);
        copyIs(x, 0, 2, 0, 0, STORE);
        copyIs(x, 0, 3, 0, 1, NULL);
        due.is("38 count(8)", x.count(8), 1);
        due.is("38 copy(3, 0, 0, 0, 1)", x.copy(3, 0, 0, 0, 1), NULL);
        due.is("38 copy(3, 0, 3, 0, 1)", x.copy(3, 0, 3, 0, 1), NULL);
        for (int s : NO_SHEETS) {
            copyIs(x, 0, s, 0, 1, BAD);
            due.is("38 copy(" + s + ", 0, 3, 0, 1)", x.copy(s, 0, 3, 0, 1), BAD);
            due.is("38 copy(3, 0, " + s + ", 0, 1)", x.copy(3, 0, s, 0, 1), BAD);
        }
        itemsAre(x, 0, 1, 2, 3, 4);
        itemsAre(x, 1, 5, 6);
    }

    private static void write() {
        EveningAuction x = Due.withBids("0410;2310;9210");
        Due.ints(x, 0, 8, 8, 8, 8, 8, 8, 8, 8, 8, 8, 8, 8);
        due.is("39 write(0)", x.write(0), 10);
        int[] want = {4, -1, 3, -1, -1, -1, -1, -1, -1, 2, 8, 8};
        for (int i = 0; i < want.length; i++) {
            due.is("39 item " + i, x.get(0, 2, i), want[i]);
        }
        x.sheet(1, 0, 2);
        due.is("39 write(1) of two bytes", x.write(1), 2);
        due.is("39 first byte", x.get(1, 0, 0), 4);
        due.is("39 byte of nobody's", x.get(1, 0, 1), -1);
        x.sheet(1, 1, 0);
        due.is("39 write(1) of no items", x.write(1), 0);
        due.is("39 write(2) of a lost one", x.write(2), NULL);
        due.is("39 count(8)", x.count(8), 1);
        for (int s : NO_SHEETS) {
            due.is("39 write(" + s + ")", x.write(s), BAD);
        }
    }

    private static void countsAre(EveningAuction x, int... want) {
        for (int what = 0; what < want.length; what++) {
            due.is("40 count(" + what + ")", x.count(what), want[what]);
        }
    }

    private static void count() {
        EveningAuction x = Due.withBids("0010;0115;0116;1420;1005");
        x.seen(0, 0);
        x.seen(0, 0);
        x.set(0, 3);
        countsAre(x, 5, 24, 3, 2, 35, 2, 3, 0, 0);
        x.set(1, 1);
        x.evening(1, 0, 6);
        countsAre(x, 5, 24, 3, 2, 16, 2, 3, 1, 0);
        Due.type(x, ";2007");
        x.set(1, 0);
        countsAre(x, 6, 29, 4, 3, 42, 2, 3, 0, 0);
        x.undo();
        x.set(1, 1);
        x.type('x');
        countsAre(x, 0, 25, 0, 0, 0, 2, 3, 1, 0);
        for (int what : new int[] {-1, 9, MIN, MAX}) {
            due.is("40 count(" + what + ")", x.count(what), BAD);
        }
    }

    /** Only findings are told by count(8), and neither other refusals nor what goes well change it. */
    private static void countFindings() {
        EveningAuction x = new EveningAuction();
        x.undo();
        x.type(256);
        x.price(0);
        x.sheet(0, 2, 3);
        x.rather(0);
        due.is("40 count(8) before any", x.count(8), 0);
        x.sheet(0, 2, -5);
        due.is("40 count(8) size", x.count(8), 5);
        x.sheet(1, 1, 3);
        due.is("40 count(8) stays", x.count(8), 5);
        x.copy(0, 0, 1, 0, 1);
        due.is("40 count(8) store", x.count(8), 4);
        x.lay(0, 0, 0, 0);
        due.is("40 count(8) cast", x.count(8), 3);
        x.get(0, 2, 3);
        due.is("40 count(8) index", x.count(8), 2);
        x.write(3);
        due.is("40 count(8) null", x.count(8), 1);
        x.copy(0, 0, 0, 0, 1);
        x.rather(4);
        x.digest();
        due.is("40 count(8) still", x.count(8), 1);
    }

    private static void digestOfNothing() {
        EveningAuction x = new EveningAuction();
        due.is("41 digest() of a new object", x.digest(), digestByParts(x));
        x.write(0);
        due.is("41 digest() is without count(8)", x.digest(), new EveningAuction().digest());
    }

    private static EveningAuction ofAllKinds() {
        EveningAuction x = Due.withBids("0020;1130;0125;2240;3045;1350;0022;9410");
        for (int evening = 0; evening < 10; evening++) {
            for (int bidder = 0; bidder < 5; bidder++) {
                x.value(bidder, evening, (bidder * 37 + evening * 53) % 100);
            }
            x.evening(evening, 1, evening * 3 % 17);
            x.evening(evening, 0, evening * 2);
        }
        for (int bidder = 0; bidder < 5; bidder++) {
            x.joy(bidder, (bidder + 2) % 5, bidder + 1);
        }
        x.bidder(2, 1, 0);
        x.seen(3, 0);
        x.seen(4, 0);
        return x;
    }

    private static void digestIsOfItsParts() {
        EveningAuction x = ofAllKinds();
        due.is("41 digest()", x.digest(), digestByParts(x));
        x.value(1, 0, 10);
        x.value(1, 1, 20);
        x.value(1, 2, 5);
        x.value(3, 1, 10);
        x.value(3, 0, 20);
        due.is("41 swap(0, 1)", x.swap(0, 1), 1);
        due.is("41 swap(0, 2)", x.swap(0, 2), 0);
        due.is("41 digest() with a swap", x.digest(), digestByParts(x));
        EveningAuction y = ofAllKinds();
        y.digest();
        y.set(1, 1);
        y.set(2, 1);
        y.busy(0, 1, 1);
        due.is("41 digest() behind changes", y.digest(), digestByParts(y));
        y.type(';');
        due.is("41 digest() with a fault", y.digest(), digestByParts(y));
    }

    private static long digestByParts(EveningAuction x) {
        java.util.List<Long> parts = new java.util.ArrayList<>();
        for (int what = 0; what <= 7; what++) {
            parts.add((long) x.count(what));
        }
        parts.add((long) x.fault());
        parts.add((long) x.judged());
        for (int bid = 0; bid < x.count(0); bid++) {
            parts.add((long) x.holds(bid));
            parts.add((long) x.without(bid, 0));
        }
        for (int e = 0; e < 10; e++) {
            long[] all = {x.owner(e), x.price(e), x.harm(e), x.owners(e), x.worth(1, e, 0), x.worth(1, e, 1)};
            for (long part : all) {
                parts.add(part);
            }
        }
        for (int b = 0; b < 5; b++) {
            long[] all = {x.has(b, 0), x.has(b, 1), x.has(b, 2), x.happy(b), x.wet(b, 7), x.gain(b), x.each(b),
                x.pays(b), x.share(b, 0), x.share(b, 1)};
            for (long part : all) {
                parts.add(part);
            }
        }
        long[] last = {x.each(-1), x.meet(3, 2, 0), x.meet(3, 2, 1), x.club(31), x.owners(-1), x.swap(0, 1)};
        for (long part : last) {
            parts.add(part);
        }
        long h = 17;
        for (long part : parts) {
            h = 31 * h + part;
        }
        return h;
    }
}
