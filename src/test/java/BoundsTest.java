/** Each sentence of the document, the terms and promises 1 to 41, with a test of its own at the bounds that it names. */
public final class BoundsTest {
    public static void main(String[] args) throws Exception {
        Bounds b = new Bounds();
        new TermBounds(b).all();
        new MoreTermBounds(b).all();
        new BidBounds(b).all();
        new OutcomeBounds(b).all();
        new ClubBounds(b).all();
        new SheetBounds(b).all();
        b.finish();
    }
}
