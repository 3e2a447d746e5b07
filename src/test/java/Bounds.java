import java.util.ArrayList;
import java.util.List;
import java.util.function.Supplier;

/**
 * What the tests of bounds share: each test quotes the sentence that it holds fast, and a refused call is
 * made on one of two twins, so that it can be seen that it changes nothing.
 */
final class Bounds {
    static final int NONE = -1, BAD = -2, NOT = -3, FULL = -4;
    static final int NULL = 1, INDEX = 2, CAST = 3, STORE = 4, SIZE = 5;
    static final long BAD_LONG = Long.MIN_VALUE + 2;
    static final int MIN = Integer.MIN_VALUE, MAX = Integer.MAX_VALUE;

    interface Call {
        long ask(EveningAuction x);
    }

    private final Due due = new Due("BoundsTest");
    private final Document document;
    private String test = "";
    private int answers = 1;

    Bounds() throws Exception {
        document = new Document();
    }

    /** Begins the test of a sentence of the terms (part 0) or of a promise (its number). */
    void of(int part, String sentence) {
        endTest();
        test = (part == 0 ? "terms" : "promise " + part) + " \"" + sentence + "\"";
        due.is(test + " stands in the document", document.quote(part, sentence) ? 1 : 0, 1);
        answers = 0;
    }

    private void endTest() {
        due.is(test + " has a test", answers > 0 ? 1 : 0, 1);
    }

    void is(String call, long got, long want) {
        answers++;
        due.is(test + ": " + call, got, want);
    }

    void isNot(String call, long got, long unwanted) {
        answers++;
        due.is(test + ": " + call + " is not " + unwanted, got != unwanted ? 1 : 0, 1);
    }

    void finish() {
        endTest();
        for (int part = 0; part <= Document.PROMISES; part++) {
            String left = document.left(part);
            due.is("words of part " + part + " without a test: " + left, left.length(), 0);
        }
        due.finish();
    }

    // ---- refused calls

    /** The call is refused with this answer in each of the plain states, and changes nothing. */
    void refused(String call, Call made, long want) {
        refusedIn("without bids", EveningAuction::new, call, made, want);
        refusedIn("with all", Bounds::withAll, call, made, want);
        refusedIn("with a fault", Bounds::withFault, call, made, want);
    }

    void refusedIn(String state, Supplier<EveningAuction> maker, String call, Call made, long want) {
        twins(state, maker, call, made, want, maker.get().count(8));
    }

    /** The call is refused by a finding, which changes nothing but count(8). */
    void found(String state, Supplier<EveningAuction> maker, String call, Call made, int finding) {
        twins(state, maker, call, made, -10 - finding, finding);
    }

    /** As found(), by get(), which tells any refusal as the least int. */
    void foundByGet(String state, Supplier<EveningAuction> maker, String call, Call made, int finding) {
        twins(state, maker, call, made, MIN, finding);
    }

    private void twins(String state, Supplier<EveningAuction> maker, String call, Call made, long want, int finding) {
        String asked = call + " " + state;
        EveningAuction one = maker.get();
        EveningAuction other = maker.get();
        is(asked, made.ask(one), want);
        is(asked + ": count(8) behind it", one.count(8), finding);
        List<Long> seenOfOne = look(one);
        List<Long> seenOfOther = look(other);
        is(asked + " changes nothing", seenOfOne.equals(seenOfOther) ? 1 : 0, 1);
    }

    /** All of an object but count(8): asking for settings changes them, so it is of no use behind this. */
    static List<Long> look(EveningAuction x) {
        List<Long> all = new ArrayList<>();
        add(all, x.digest(), x.fault(), x.judged());
        for (int what = 0; what <= 7; what++) {
            add(all, x.count(what));
        }
        lookAtSheets(x, all);
        lookAtBidders(x, all);
        lookAtEvenings(x, all);
        add(all, x.set(0, 1), x.set(1, 0), x.set(2, 10), x.forget());
        lookAtText(x, all);
        return all;
    }

    private static void add(List<Long> all, long... more) {
        for (long one : more) {
            all.add(one);
        }
    }

    private static void lookAtSheets(EveningAuction x, List<Long> all) {
        for (int s = 0; s < 4; s++) {
            for (int form = 0; form < 3; form++) {
                for (int i = 0; i < 6; i++) {
                    add(all, x.get(s, form, i));
                }
            }
            add(all, x.lose(s));
        }
    }

    private static void lookAtBidders(EveningAuction x, List<Long> all) {
        for (int bidder = 0; bidder < 5; bidder++) {
            add(all, x.bidder(bidder, 0, 999), x.bidder(bidder, 1, 0));
            for (int programme = 0; programme < 5; programme++) {
                add(all, x.joy(bidder, programme, bidder + programme));
            }
        }
    }

    private static void lookAtEvenings(EveningAuction x, List<Long> all) {
        for (int evening = 0; evening < 10; evening++) {
            add(all, x.evening(evening, 0, 0), x.evening(evening, 1, 0));
            for (int bidder = 0; bidder < 5; bidder++) {
                add(all, x.value(bidder, evening, 10 * bidder + evening), x.busy(bidder, evening, 0));
            }
        }
    }

    /** A text that is not ended is ended first; then bid by bid is undone. */
    private static void lookAtText(EveningAuction x, List<Long> all) {
        int length = x.count(1);
        if (x.fault() == length && length < 96) {
            Due.type(x, "0001".substring(length % 5 % 4));
        }
        for (int n = 0; n < 21; n++) {
            add(all, x.digest(), x.undo());
        }
        add(all, x.wipe());
    }

    // ---- states

    /** Bids, seen evenings, settings that differ from those at first, and sheets of each form; the last is lost. */
    static EveningAuction withAll() {
        EveningAuction x = Due.withBids("0010;1120;0230;9499");
        x.bidder(0, 0, 77);
        x.bidder(3, 1, 0);
        x.value(1, 1, 40);
        x.value(2, 0, 50);
        x.joy(1, 2, 3);
        x.evening(0, 0, 9);
        x.evening(1, 1, 8);
        x.busy(3, 4, 1);
        x.set(0, 3);
        x.set(1, 1);
        x.set(2, 7);
        x.seen(0, 0);
        x.seen(4, 4);
        Due.ints(x, 0, 5, 6, 7, 8, 9);
        x.sheet(1, 0, 3);
        x.lay(1, 0, 2, -4);
        x.sheet(2, 1, 2);
        x.lay(2, 1, 0, 300);
        return x;
    }

    static EveningAuction withFault() {
        EveningAuction x = Due.withBids("0010;1120;0");
        x.sheet(0, 2, 5);
        return x;
    }

    static String bids(int n) {
        StringBuilder text = new StringBuilder();
        for (int bid = 0; bid < n; bid++) {
            text.append(bid == 0 ? "" : ";").append(bid % 10).append(bid / 10).append("0").append(1 + bid / 10);
        }
        return text.toString();
    }

    /** Twenty bids that all hold, and a hundredth byte. */
    static EveningAuction withHundredBytes() {
        return Due.withBids(bids(20) + ";");
    }

    static EveningAuction withTwentyBids() {
        return Due.withBids(bids(20));
    }

    static EveningAuction withEightSeen() {
        EveningAuction x = Due.withBids("0010;1120");
        for (int evening = 0; evening < 8; evening++) {
            x.seen(evening, evening % 5);
        }
        return x;
    }

    static EveningAuction withSheet(int form, int n) {
        EveningAuction x = new EveningAuction();
        x.sheet(0, form, n);
        return x;
    }
}
