/** Compares answers with those that are due, and tells each that is not. */
final class Due {
    private final String test;
    private int asked = 0;
    private int wrong = 0;

    Due(String test) {
        this.test = test;
    }

    void is(String call, long got, long want) {
        asked++;
        if (got != want) {
            wrong++;
            System.out.println(test + ": " + call + " answered " + got + ", due is " + want);
        }
    }

    boolean hasWrong() {
        return wrong > 0;
    }

    void finish() {
        System.out.println(test + ": " + asked + " answers, " + wrong + " not as due");
        if (wrong > 0 || asked == 0) {
            System.exit(1);
        }
    }

    /** Types a text byte by byte behind the bids. */
    static void type(EveningAuction x, String text) {
        for (int i = 0; i < text.length(); i++) {
            x.type(text.charAt(i));
        }
    }

    static EveningAuction withBids(String text) {
        EveningAuction x = new EveningAuction();
        type(x, text);
        return x;
    }

    /** Makes a sheet of ints with these items. */
    static void ints(EveningAuction x, int s, int... items) {
        x.sheet(s, 2, items.length);
        for (int i = 0; i < items.length; i++) {
            x.lay(s, 2, i, items[i]);
        }
    }
}
