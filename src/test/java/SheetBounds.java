import java.math.BigInteger;
import java.util.function.Supplier;

/** The bounds of promises 34 to 41, sentence by sentence. */
final class SheetBounds {
    private static final int[] NO_SHEETS = {-2, -1, 4, 5, Bounds.MIN, Bounds.MAX};
    private static final int[] NO_FORMS = {-2, -1, 3, 4, Bounds.MIN, Bounds.MAX};
    private static final int[] BITS = {8, 16, 32};

    private final Bounds b;

    SheetBounds(Bounds b) {
        this.b = b;
    }

    void all() {
        sheet();
        lose();
        lay();
        layRefused();
        get();
        getRefused();
        copy();
        copyRefused();
        copyBeyond();
        write();
        count();
        digest();
        digestWraps();
    }

    private void sheet() {
        b.of(34, "A SHEET is a new row of a FORM with n items: n.");
        for (int form = 0; form < 3; form++) {
            for (int s = 0; s < 4; s++) {
                EveningAuction x = new EveningAuction();
                for (int n : new int[] {0, 1, 59, 60}) {
                    b.is("sheet(" + s + ", " + form + ", " + n + ")", x.sheet(s, form, n), n);
                    b.is("lose(" + s + ")", x.lose(s), n);
                }
            }
        }
        EveningAuction x = Bounds.withAll();
        x.sheet(0, 0, 5);
        b.is("a new row has new items", x.get(0, 0, 4), 0);
        b.is("a new row has the new form", x.get(0, 2, 4), Bounds.MIN);
        b.is("another row is left", x.get(1, 0, 2), -4);
        b.of(34, "BAD: SHEET, FORM, above 60;");
        for (int s : NO_SHEETS) {
            b.refused("sheet(" + s + ", 0, 1)", y -> y.sheet(s, 0, 1), Bounds.BAD);
        }
        for (int form : NO_FORMS) {
            b.refused("sheet(0, " + form + ", 1)", y -> y.sheet(0, form, 1), Bounds.BAD);
        }
        for (int n : new int[] {61, 62, Bounds.MAX}) {
            b.refused("sheet(0, 0, " + n + ")", y -> y.sheet(0, 0, n), Bounds.BAD);
            b.refused("sheet(3, 2, " + n + ")", y -> y.sheet(3, 2, n), Bounds.BAD);
        }
        b.of(34, "SIZE.");
        for (int n : new int[] {-1, -2, Bounds.MIN}) {
            b.found("at first", EveningAuction::new, "sheet(0, 0, " + n + ")", y -> y.sheet(0, 0, n), Bounds.SIZE);
            b.found("with all", Bounds::withAll, "sheet(0, 2, " + n + ")", y -> y.sheet(0, 2, n), Bounds.SIZE);
            b.found("with all", Bounds::withAll, "sheet(3, 1, " + n + ")", y -> y.sheet(3, 1, n), Bounds.SIZE);
        }
    }

    private void lose() {
        b.of(35, "It is LOST: how many items it had.");
        for (int n : new int[] {0, 1, 59, 60}) {
            EveningAuction x = new EveningAuction();
            x.sheet(3, 1, n);
            b.is("lose(3) of " + n, x.lose(3), n);
            b.is("lose(3) again", x.lose(3), -11);
        }
        EveningAuction all = Bounds.withAll();
        all.lose(0);
        b.is("another row is left", all.lose(1), 3);
        b.of(35, "BAD;");
        for (int s : NO_SHEETS) {
            b.refused("lose(" + s + ")", x -> x.lose(s), Bounds.BAD);
        }
        b.of(35, "NULL.");
        for (int s = 0; s < 4; s++) {
            int which = s;
            b.found("at first", EveningAuction::new, "lose(" + s + ")", x -> x.lose(which), Bounds.NULL);
        }
        b.found("with all", Bounds::withAll, "lose(3)", x -> x.lose(3), Bounds.NULL);
    }

    private void lay() {
        b.of(36, "Item i, treated as of a FORM, becomes v (the lowest bits that it has): 1.");
        for (int form = 0; form < 3; form++) {
            EveningAuction x = Bounds.withSheet(form, 60);
            int greatest = (int) ((1L << (BITS[form] - 1)) - 1);
            int least = -greatest - 1;
            int[] laid = {0, 1, -1, greatest, least, greatest + 1, least - 1, Bounds.MAX, Bounds.MIN};
            int[] want = {0, 1, -1, greatest, least, least, greatest, form == 2 ? Bounds.MAX : -1,
                form == 2 ? Bounds.MIN : 0};
            for (int i : new int[] {0, 59}) {
                for (int n = 0; n < laid.length; n++) {
                    b.is("lay(0, " + form + ", " + i + ", " + laid[n] + ")", x.lay(0, form, i, laid[n]), 1);
                    b.is("get(0, " + form + ", " + i + ")", x.get(0, form, i), want[n]);
                }
            }
            b.is("an item beside the first", x.get(0, form, 1), 0);
            b.is("an item beside the last", x.get(0, form, 58), 0);
        }
        EveningAuction bits = Bounds.withSheet(0, 1);
        bits.lay(0, 0, 0, 256);
        b.is("256 as a byte", bits.get(0, 0, 0), 0);
        bits.lay(0, 0, 0, 255);
        b.is("255 as a byte", bits.get(0, 0, 0), -1);
        bits.sheet(0, 1, 1);
        bits.lay(0, 1, 0, 65536);
        b.is("65536 as a short", bits.get(0, 1, 0), 0);
        bits.lay(0, 1, 0, 65535);
        b.is("65535 as a short", bits.get(0, 1, 0), -1);
    }

    private void layRefused() {
        b.of(36, "BAD;");
        for (int s : NO_SHEETS) {
            b.refused("lay(" + s + ", 2, 0, 1)", x -> x.lay(s, 2, 0, 1), Bounds.BAD);
        }
        for (int form : NO_FORMS) {
            b.refused("lay(0, " + form + ", 0, 1)", x -> x.lay(0, form, 0, 1), Bounds.BAD);
        }
        b.of(36, "NULL;");
        for (int s = 0; s < 4; s++) {
            int which = s;
            b.found("at first", EveningAuction::new, "lay(" + s + ", 0, 0, 1)", x -> x.lay(which, 0, 0, 1),
                Bounds.NULL);
        }
        b.of(36, "CAST;");
        for (int has = 0; has < 3; has++) {
            for (int form = 0; form < 3; form++) {
                int of = has;
                int as = form;
                Supplier<EveningAuction> maker = () -> Bounds.withSheet(of, 1);
                if (of != as) {
                    b.found("of form " + of, maker, "lay(0, " + as + ", 0, 1)", x -> x.lay(0, as, 0, 1), Bounds.CAST);
                } else {
                    b.is("lay(0, " + as + ", 0, 1) of form " + of, maker.get().lay(0, as, 0, 1), 1);
                }
            }
        }
        b.of(36, "INDEX.");
        for (int i : new int[] {-1, 5, 6, Bounds.MIN, Bounds.MAX}) {
            b.found("with all", Bounds::withAll, "lay(0, 2, " + i + ", 1)", x -> x.lay(0, 2, i, 1), Bounds.INDEX);
        }
        b.found("of none", () -> Bounds.withSheet(0, 0), "lay(0, 0, 0, 1)", x -> x.lay(0, 0, 0, 1), Bounds.INDEX);
        b.found("of sixty", () -> Bounds.withSheet(0, 60), "lay(0, 0, 60, 1)", x -> x.lay(0, 0, 60, 1), Bounds.INDEX);
    }

    private void get() {
        b.of(37, "Item i of it.");
        EveningAuction x = new EveningAuction();
        Due.ints(x, 3, Bounds.MIN, -1, 0, Bounds.MAX);
        b.is("get(3, 2, 0), which is the least int", x.get(3, 2, 0), Bounds.MIN);
        b.is("count(8) behind that", x.count(8), 0);
        b.is("get(3, 2, 1)", x.get(3, 2, 1), -1);
        b.is("get(3, 2, 2)", x.get(3, 2, 2), 0);
        b.is("get(3, 2, 3)", x.get(3, 2, 3), Bounds.MAX);
        EveningAuction y = Bounds.withSheet(1, 60);
        y.lay(0, 1, 59, 7);
        b.is("get(0, 1, 59)", y.get(0, 1, 59), 7);
    }

    private void getRefused() {
        b.of(37, "BAD: the least int;");
        for (int s : NO_SHEETS) {
            b.refused("get(" + s + ", 2, 0)", x -> x.get(s, 2, 0), Bounds.MIN);
        }
        for (int form : NO_FORMS) {
            b.refused("get(0, " + form + ", 0)", x -> x.get(0, form, 0), Bounds.MIN);
        }
        b.of(37, "so are NULL, CAST, INDEX (count() 8 tells).");
        for (int s = 0; s < 4; s++) {
            int which = s;
            b.foundByGet("at first", EveningAuction::new, "get(" + s + ", 0, 0)", x -> x.get(which, 0, 0),
                Bounds.NULL);
        }
        b.foundByGet("with all", Bounds::withAll, "get(0, 0, 0)", x -> x.get(0, 0, 0), Bounds.CAST);
        b.foundByGet("with all", Bounds::withAll, "get(0, 1, 0)", x -> x.get(0, 1, 0), Bounds.CAST);
        b.foundByGet("with all", Bounds::withAll, "get(1, 2, 0)", x -> x.get(1, 2, 0), Bounds.CAST);
        for (int i : new int[] {-1, 5, 6, Bounds.MIN, Bounds.MAX}) {
            b.foundByGet("with all", Bounds::withAll, "get(0, 2, " + i + ")", x -> x.get(0, 2, i), Bounds.INDEX);
        }
        b.foundByGet("of none", () -> Bounds.withSheet(0, 0), "get(0, 0, 0)", x -> x.get(0, 0, 0), Bounds.INDEX);
        b.foundByGet("of sixty", () -> Bounds.withSheet(0, 60), "get(0, 0, 60)", x -> x.get(0, 0, 60), Bounds.INDEX);
    }

    private void itemsAre(EveningAuction x, int s, int... want) {
        for (int i = 0; i < want.length; i++) {
            b.is("get(" + s + ", 2, " + i + ")", x.get(s, 2, i), want[i]);
        }
        b.is("how many items SHEET " + s + " has", x.lose(s), want.length);
    }

    private static EveningAuction twoSheets() {
        EveningAuction x = new EveningAuction();
        Due.ints(x, 0, 1, 2, 3, 4);
        Due.ints(x, 1, 7, 8, 9);
        return x;
    }

    private void copied(int i, int t, int j, int n, int... want) {
        EveningAuction x = twoSheets();
        b.is("copy(0, " + i + ", " + t + ", " + j + ", " + n + ")", x.copy(0, i, t, j, n), 1);
        itemsAre(x, t, want);
        if (t != 0) {
            itemsAre(x, 0, 1, 2, 3, 4);
        }
    }

    private void copy() {
        b.of(38, "n items of SHEET s, from i on, come to SHEET t (perhaps s, as they were), from j on: 1.");
        copied(0, 1, 0, 3, 1, 2, 3);
        copied(1, 1, 0, 3, 2, 3, 4);
        copied(0, 1, 0, 1, 1, 8, 9);
        copied(3, 1, 2, 1, 7, 8, 4);
        copied(0, 1, 0, 0, 7, 8, 9);
        copied(4, 1, 3, 0, 7, 8, 9);
        copied(0, 0, 0, 4, 1, 2, 3, 4);
        copied(0, 0, 1, 3, 1, 1, 2, 3);
        copied(1, 0, 0, 3, 2, 3, 4, 4);
        copied(0, 0, 2, 2, 1, 2, 1, 2);
        copied(4, 0, 4, 0, 1, 2, 3, 4);
        EveningAuction sixty = new EveningAuction();
        for (int s : new int[] {0, 3}) {
            sixty.sheet(s, 0, 60);
        }
        sixty.lay(0, 0, 0, 5);
        sixty.lay(0, 0, 59, 6);
        b.is("copy(0, 0, 3, 0, 60)", sixty.copy(0, 0, 3, 0, 60), 1);
        b.is("get(3, 0, 0)", sixty.get(3, 0, 0), 5);
        b.is("get(3, 0, 59)", sixty.get(3, 0, 59), 6);
        EveningAuction none = Bounds.withSheet(1, 0);
        b.is("copy(0, 0, 0, 0, 0) of no items", none.copy(0, 0, 0, 0, 0), 1);
    }

    private void copyRefused() {
        b.of(38, "BAD: the SHEETS;");
        for (int s : NO_SHEETS) {
            b.refused("copy(" + s + ", 0, 0, 0, 1)", x -> x.copy(s, 0, 0, 0, 1), Bounds.BAD);
            b.refused("copy(0, 0, " + s + ", 0, 1)", x -> x.copy(0, 0, s, 0, 1), Bounds.BAD);
        }
        b.of(38, "NULL: s, t;");
        b.found("with all", Bounds::withAll, "copy(3, 0, 0, 0, 0)", x -> x.copy(3, 0, 0, 0, 0), Bounds.NULL);
        b.found("with all", Bounds::withAll, "copy(0, 0, 3, 0, 0)", x -> x.copy(0, 0, 3, 0, 0), Bounds.NULL);
        b.found("with all", Bounds::withAll, "copy(3, 0, 3, 0, 0)", x -> x.copy(3, 0, 3, 0, 0), Bounds.NULL);
        b.of(38, "STORE;");
        for (int s = 0; s < 3; s++) {
            for (int t = 0; t < 3; t++) {
                int from = s;
                int to = t;
                if (s != t) {
                    b.found("with all", Bounds::withAll, "copy(" + s + ", 0, " + t + ", 0, 1)",
                        x -> x.copy(from, 0, to, 0, 1), Bounds.STORE);
                }
            }
        }
        b.found("with all", Bounds::withAll, "copy(0, 0, 1, 0, 0)", x -> x.copy(0, 0, 1, 0, 0), Bounds.STORE);
    }

    /** SHEET 0 has four items, SHEET 1 has three. */
    private void copyBeyond() {
        b.of(38, "INDEX: below 0, not so many.");
        int[][] wrong = {{-1, 0, 1}, {0, -1, 1}, {0, 0, -1}, {0, 0, 4}, {2, 0, 3}, {4, 0, 1}, {0, 1, 3}, {0, 3, 1},
            {5, 0, 0}, {0, 4, 0}, {-1, 0, 0}, {0, -1, 0}, {Bounds.MAX, 0, 1}, {0, Bounds.MAX, 1}, {0, 0, Bounds.MAX},
            {1, 1, Bounds.MAX}, {Bounds.MAX, Bounds.MAX, Bounds.MAX}, {Bounds.MIN, 0, 1}, {0, Bounds.MIN, 1},
            {0, 0, Bounds.MIN}, {Bounds.MIN, Bounds.MIN, Bounds.MIN}, {1, 0, -1}};
        for (int[] w : wrong) {
            b.found("with two", SheetBounds::twoSheets, "copy(0, " + w[0] + ", 1, " + w[1] + ", " + w[2] + ")",
                x -> x.copy(0, w[0], 1, w[1], w[2]), Bounds.INDEX);
        }
        b.found("with two", SheetBounds::twoSheets, "copy(0, 0, 0, 1, 4)", x -> x.copy(0, 0, 0, 1, 4), Bounds.INDEX);
        b.found("with two", SheetBounds::twoSheets, "copy(0, 1, 0, 0, 4)", x -> x.copy(0, 1, 0, 0, 4), Bounds.INDEX);
    }

    private void write() {
        b.of(39, "OWNERS of EVENINGS 0 on (NONE) come to a SHEET from item 0 on, as many as there are items, ten at"
            + " most: how many.");
        int[] sizes = {0, 1, 9, 10, 11, 60};
        int[] want = {0, 1, 9, 10, 10, 10};
        for (int i = 0; i < sizes.length; i++) {
            for (int form = 0; form < 3; form++) {
                EveningAuction x = Due.withBids("0301;9401");
                x.sheet(2, form, sizes[i]);
                for (int item = 0; item < sizes[i]; item++) {
                    x.lay(2, form, item, 77);
                }
                b.is("write(2) of " + sizes[i] + " items", x.write(2), want[i]);
                for (int item = 0; item < sizes[i]; item++) {
                    int due = item >= 10 ? 77 : item == 0 ? 3 : item == 9 ? 4 : Bounds.NONE;
                    b.is("item " + item + " of " + sizes[i], x.get(2, form, item), due);
                }
            }
        }
        b.of(39, "BAD;");
        for (int s : NO_SHEETS) {
            b.refused("write(" + s + ")", x -> x.write(s), Bounds.BAD);
        }
        b.of(39, "NULL.");
        for (int s = 0; s < 4; s++) {
            int which = s;
            b.found("at first", EveningAuction::new, "write(" + s + ")", x -> x.write(which), Bounds.NULL);
        }
        b.found("with all", Bounds::withAll, "write(3)", x -> x.write(3), Bounds.NULL);
    }

    private void countIs(EveningAuction x, int what, int want) {
        b.is("count(" + what + ")", x.count(what), want);
    }

    private void count() {
        EveningAuction twenty = Bounds.withTwentyBids();
        EveningAuction none = new EveningAuction();
        EveningAuction fault = Bounds.withHundredBytes();
        int[] ofTwenty = {20, 99, 20, 10, 20, 0, 1, 0, 0};
        int[] ofFault = {0, 100, 0, 0, 0, 0, 1, 0, 0};
        int[] ofNone = {0, 0, 0, 0, 0, 0, 1, 0, 0};
        String[] told = {"0 BIDS,", "1 bytes,", "2 those that HOLD,", "3 EVENINGS that somebody OWNS,", "4 all PRICES,",
            "5 SEEN,", "6 STEP,", "7 LAW,", "8 the number of the latest FINDING (0 before any)."};
        for (int what = 0; what <= 8; what++) {
            b.of(40, told[what]);
            countIs(none, what, ofNone[what]);
            countIs(twenty, what, ofTwenty[what]);
            countIs(fault, what, ofFault[what]);
        }
        b.is("sheet(0, 0, -1)", none.sheet(0, 0, -1), -15);
        countIs(none, 8, Bounds.SIZE);
        b.is("lose(0)", none.lose(0), -11);
        countIs(none, 8, Bounds.NULL);
        b.is("sheet(0, 0, 60)", none.sheet(0, 0, 60), 60);
        countIs(none, 8, Bounds.NULL);
        b.of(40, "4 all PRICES,");
        twenty.set(1, 1);
        countIs(twenty, 4, 10);
        twenty.evening(9, 0, 2);
        countIs(twenty, 4, 9 + 2);
        countIs(twenty, 2, 19);
        b.of(40, "5 SEEN,");
        countIs(Bounds.withEightSeen(), 5, 8);
        b.of(40, "6 STEP,");
        twenty.set(0, 20);
        countIs(twenty, 6, 20);
        // Nine firsts, and the second on evening 9, where the first is below the reserve.
        countIs(twenty, 2, 10);
        b.of(40, "7 LAW,");
        countIs(twenty, 7, 1);
        b.of(40, "BAD.");
        for (int what : new int[] {-2, -1, 9, 10, Bounds.MIN, Bounds.MAX}) {
            b.refused("count(" + what + ")", x -> x.count(what), Bounds.BAD);
        }
    }

    private static long more(long h, long... parts) {
        long now = h;
        for (long part : parts) {
            now = 31 * now + part;
        }
        return now;
    }

    /** Of a new object every part is known from the document alone. */
    private void digest() {
        b.of(41, "h is 17; h becomes 31 h and each of: count() 0 to 7; fault(), judged();");
        long h = more(17, 0, 0, 0, 0, 0, 0, 1, 0, -1, -1);
        for (int evening = 0; evening < 10; evening++) {
            h = more(h, -1, -3, -3, 0, 0, 1);
        }
        for (int bidder = 0; bidder < 5; bidder++) {
            h = more(h, 0, 0, 100, 0, 0, 0, -1, 0, 0, 1);
        }
        h = more(h, 0, 2, 3, 0, 1, -3);
        b.is("digest() of a new object", new EveningAuction().digest(), h);
        EveningAuction x = Due.withBids("0010;1120;0");
        long f = more(17, 0, 11, 0, 0, 0, 0, 1, 0, 11, -1);
        for (int evening = 0; evening < 10; evening++) {
            f = more(f, -1, -3, -3, 0, 0, 1);
        }
        for (int bidder = 0; bidder < 5; bidder++) {
            f = more(f, 0, 0, 100, 0, 0, 0, -1, 0, 0, 1);
        }
        b.is("digest() with a fault", x.digest(), more(f, 0, 2, 3, 0, 1, -3));
        b.of(41, "of BIDS holds(), without(it, 0); of EVENINGS owner(), price(), harm() (as they are told), owners(it),"
            + " worth(1, it), above, below; of BIDDERS has() 0 to 2, happy(), wet(it, 7), gain(), each(it), pays(),"
            + " share(), above, below; each(NONE), meet(3, 2, 0 and 1), club(31), owners(NONE), swap(0, 1) (as it is"
            + " told);");
        b.is("digest() of two bids", ofTwoBids().digest(), digestOfTwoBids());
    }

    /** Evening 0 is of bidder 0 for 10, evening 1 of bidder 1 for 20; each would rather have the other. */
    private static EveningAuction ofTwoBids() {
        EveningAuction x = Due.withBids("0010;1120;1020");
        x.value(0, 1, 3);
        x.value(1, 0, 5);
        x.value(2, 0, 2);
        x.evening(0, 1, 8);
        x.evening(1, 1, 16);
        x.seen(9, 4);
        return x;
    }

    private static long digestOfTwoBids() {
        long h = more(17, 3, 14, 2, 2, 30, 1, 1, 0, -1, 2);
        h = more(h, 1, -1, 1, 0, 0, 0);
        h = more(h, 0, 10, 0, 0, 5, 2);
        h = more(h, 1, 20, 0, 0, 0, 1);
        for (int evening = 2; evening < 10; evening++) {
            h = more(h, -1, -3, -3, evening == 9 ? 16 : 0, 0, 1);
        }
        // From 7 the first lot of 16 is 12, no less than 8: evening 1 alone is refused.
        h = more(h, 1, 10, 90, 9, 9, -10, 1, 0, 3, 1);
        // Bidder 2 would have evening 0 for 2, were 1 not there; what it would bring they share.
        h = more(h, 2, 20, 80, 9, 0, -20, 0, 2, 4, 1);
        h = more(h, 0, 0, 100, 0, 0, 0, -1, 0, 1, 1);
        for (int bidder = 3; bidder < 5; bidder++) {
            h = more(h, 0, 0, 100, 0, 0, 0, -1, 0, 0, 1);
        }
        return more(h, 8, 0, 3, 8, 1, 1);
    }

    /** All parts of a new object's digest, by whole numbers that do not wrap. */
    private static BigInteger wholeDigest() {
        long[] first = {0, 0, 0, 0, 0, 0, 1, 0, -1, -1};
        long[] evening = {-1, -3, -3, 0, 0, 1};
        long[] bidder = {0, 0, 100, 0, 0, 0, -1, 0, 0, 1};
        long[] last = {0, 2, 3, 0, 1, -3};
        BigInteger h = more(BigInteger.valueOf(17), first);
        for (int n = 0; n < 10; n++) {
            h = more(h, evening);
        }
        for (int n = 0; n < 5; n++) {
            h = more(h, bidder);
        }
        return more(h, last);
    }

    private static BigInteger more(BigInteger h, long[] parts) {
        BigInteger now = h;
        for (long part : parts) {
            now = now.multiply(BigInteger.valueOf(31)).add(BigInteger.valueOf(part));
        }
        return now;
    }

    private void digestWraps() {
        b.of(41, "as longs that wrap.");
        BigInteger whole = wholeDigest();
        b.is("it is far beyond a long", whole.bitLength() > 64 ? 1 : 0, 1);
        b.is("digest() of a new object", new EveningAuction().digest(), whole.longValue());
        EveningAuction x = Bounds.withTwentyBids();
        long once = x.digest();
        b.is("digest() again", x.digest(), once);
        b.is("count(8) behind it", x.count(8), 0);
        b.is("digest() changes nothing", Bounds.look(x).equals(Bounds.look(Bounds.withTwentyBids())) ? 1 : 0, 1);
    }
}
