import java.util.Random;

/** Runs of random calls, each answer held against that of the Reference; the seeds are fixed. */
public final class ReferenceTest {
    private static final int RUNS = 500;
    private static final int CALLS = 512;
    private static final int CALLS_OF_ONE_TURN = 14;
    private static final int KINDS = 41;
    private static final Due due = new Due("ReferenceTest");

    private final EveningAuction x = new EveningAuction();
    private final Reference r = new Reference();
    private final Random random;
    private final int run;
    private int asked = 0;

    private ReferenceTest(int run) {
        this.run = run;
        this.random = new Random(run);
    }

    public static void main(String[] args) {
        for (int run = 0; run < RUNS && !due.hasWrong(); run++) {
            new ReferenceTest(run).calls();
        }
        due.finish();
    }

    private void calls() {
        int favourite = random.nextInt(4);
        for (int call = 0; asked + CALLS_OF_ONE_TURN <= CALLS; call++) {
            // A run is either mostly of bids, of settings, of sheets, or of everything alike.
            int kind = favourite == 0 && call % 2 == 0 ? random.nextInt(12)
                : favourite == 1 && call % 2 == 0 ? 2 + random.nextInt(6)
                : favourite == 2 && call % 2 == 0 ? 33 + random.nextInt(6) : random.nextInt(KINDS);
            if (kind < 10) {
                change(kind);
            } else if (kind < 25) {
                ask(kind);
            } else if (kind < 33) {
                look(kind);
            } else {
                sheets(kind);
            }
        }
    }

    private int upTo(int greatest) {
        return random.nextInt(greatest + 1);
    }

    private void same(String call, long got, long want) {
        asked++;
        due.is("run " + run + " with \"" + r.text + "\": " + call, got, want);
    }

    /** Mostly one that goes on well, so that long texts of bids come about. */
    private int nextByte() {
        int place = r.text.length() % 5;
        if (upTo(150) == 0) {
            return upTo(255);
        }
        return place == 4 ? ';' : place == 1 ? '0' + upTo(4) : place == 0 ? '0' + upTo(upTo(9)) : '0' + upTo(9);
    }

    private void typeOne() {
        int b = nextByte();
        int want = r.text.length() == 100 ? -4 : r.text.length() + 1;
        same("type(" + b + ")", x.type(b), want);
        r.text = want == -4 ? r.text : r.text + (char) b;
    }

    private void change(int kind) {
        int bidder = upTo(4);
        int evening = upTo(9);
        switch (kind) {
            case 0 -> {
                for (int n = 0; n < 5; n++) {
                    typeOne();
                }
            }
            case 1 -> {
                if (upTo(20) == 0 || r.fault() != -1 && upTo(3) == 0) {
                    same("wipe()", x.wipe(), r.text.length());
                    r.text = "";
                } else {
                    same("undo()", x.undo(), r.undo());
                }
            }
            case 2 -> purseOrProgramme(bidder);
            case 3, 4 -> {
                int v = upTo(1) == 0 ? upTo(3) : upTo(99);
                same("value", x.value(bidder, evening, v), r.value[bidder][evening]);
                r.value[bidder][evening] = v;
            }
            case 5 -> {
                int programme = upTo(4);
                int v = upTo(9);
                same("joy", x.joy(bidder, programme, v), r.joy[bidder][programme]);
                r.joy[bidder][programme] = v;
            }
            case 6 -> reserveOrClouds(evening);
            case 7 -> rule();
            case 8 -> {
                int v = upTo(1);
                same("busy", x.busy(bidder, evening, v), r.busy[bidder][evening]);
                r.busy[bidder][evening] = v;
            }
            default -> sight(evening);
        }
    }

    private void purseOrProgramme(int bidder) {
        if (upTo(1) == 0) {
            int v = upTo(1) == 0 ? upTo(150) : upTo(999);
            same("purse", x.bidder(bidder, 0, v), r.purse[bidder]);
            r.purse[bidder] = v;
        } else {
            int v = upTo(upTo(4));
            same("programme", x.bidder(bidder, 1, v), r.programme[bidder]);
            r.programme[bidder] = v;
        }
    }

    private void reserveOrClouds(int evening) {
        if (upTo(1) == 0) {
            int v = upTo(upTo(99));
            same("reserve", x.evening(evening, 0, v), r.reserve[evening]);
            r.reserve[evening] = v;
        } else {
            int v = upTo(16);
            same("clouds", x.evening(evening, 1, v), r.clouds[evening]);
            r.clouds[evening] = v;
        }
    }

    private void rule() {
        switch (upTo(2)) {
            case 0 -> {
                int v = 1 + upTo(upTo(19));
                same("step", x.set(0, v), r.step);
                r.step = v;
            }
            case 1 -> {
                int v = upTo(1);
                same("law", x.set(1, v), r.law);
                r.law = v;
            }
            default -> {
                int v = 1 + upTo(upTo(9));
                same("most", x.set(2, v), r.most);
                r.most = v;
            }
        }
    }

    private void sight(int evening) {
        if (upTo(12) == 0) {
            same("forget()", x.forget(), r.seen.size());
            r.seen.clear();
            return;
        }
        int programme = upTo(upTo(4));
        for (int[] one : r.seen) {
            programme = one[0] == evening && upTo(9) != 0 ? one[1] : programme;
        }
        same("seen", x.seen(evening, programme), r.seen.size() == 8 ? -4 : r.seen.size() + 1);
        if (r.seen.size() < 8) {
            r.seen.add(new int[] {evening, programme});
        }
    }

    private void ask(int kind) {
        int bidder = upTo(4);
        int evening = upTo(9);
        int bid = upTo(20);
        boolean isBid = bid < r.bids().size();
        switch (kind) {
            case 10 -> same("fault()", x.fault(), r.fault());
            case 11 -> same("holds(" + bid + ")", x.holds(bid), isBid ? r.holds(bid) : -2);
            case 12 -> same("judged()", x.judged(), r.judged());
            case 13 -> same("owner(" + evening + ")", x.owner(evening), r.owner(evening));
            case 14, 15 -> same("price(" + evening + ")", x.price(evening), r.price(evening));
            case 16, 17 -> {
                int what = upTo(2);
                same("has(" + bidder + ", " + what + ")", x.has(bidder, what), r.has(bidder, what));
            }
            case 18 -> same("happy(" + bidder + ")", x.happy(bidder), r.happy(bidder, new boolean[10]));
            case 19 -> {
                int seed = upTo(1) == 0 ? upTo(9) : random.nextInt();
                same("wet(" + bidder + ", " + seed + ")", x.wet(bidder, seed), r.happy(bidder, r.rain(seed)));
            }
            case 20 -> same("harm(" + evening + ")", x.harm(evening), r.harm(evening));
            case 21 -> same("gain(" + bidder + ")", x.gain(bidder), r.gain(bidder));
            case 22, 23 -> same("without(" + bid + ", " + evening + ")", x.without(bid, evening),
                isBid ? r.without(bid, evening) : -2);
            default -> same("swap(" + evening + ", " + (9 - evening) + ")", x.swap(evening, 9 - evening),
                r.swap(evening, 9 - evening));
        }
    }

    private void look(int kind) {
        int bidder = upTo(4);
        int evening = upTo(9);
        int what = upTo(1);
        switch (kind) {
            case 25 -> {
                int set = 1 + upTo(30);
                int k = 1 + upTo(3);
                same("meet(" + set + ", " + k + ", " + what + ")", x.meet(set, k, what), r.meet(set, k, what));
            }
            case 26 -> {
                int[] best = r.bestRow(-1);
                same("each(NONE)", x.each(-1), best[5]);
                for (int b = 0; b < 5; b++) {
                    same("each(" + b + ")", x.each(b), best[b]);
                }
            }
            case 27 -> same("pays(" + bidder + ")", x.pays(bidder), r.pays(bidder));
            case 28 -> {
                int set = upTo(31);
                same("club(" + set + ")", x.club(set), r.club(set));
            }
            case 29 -> same("share(" + bidder + ", " + what + ")", x.share(bidder, what), r.share(bidder, what));
            case 30 -> same("owners(NONE)", x.owners(-1), r.owners(-1));
            case 31 -> same("owners(" + evening + ")", x.owners(evening), r.owners(evening));
            default -> same("worth(" + bidder + ", " + evening + ", " + what + ")", x.worth(bidder, evening, what),
                Reference.lowest(r.value[bidder][evening] * (16 - r.clouds[evening]), 16, what));
        }
    }

    private void sheets(int kind) {
        int s = upTo(3);
        int form = upTo(2);
        switch (kind) {
            case 33 -> {
                int n = upTo(15) == 0 ? -1 - upTo(3) : upTo(2) == 0 ? upTo(60) : upTo(12);
                same("sheet(" + s + ", " + form + ", " + n + ")", x.sheet(s, form, n), n < 0 ? r.find(5) : n);
                r.sheets[s] = n < 0 ? r.sheets[s] : Reference.row(form, n);
            }
            case 34 -> {
                if (upTo(3) == 0) {
                    same("lose(" + s + ")", x.lose(s), r.sheets[s] == null ? r.find(1) : r.size(s));
                    r.sheets[s] = null;
                } else {
                    same("write(" + s + ")", x.write(s), r.write(s));
                }
            }
            case 35 -> {
                for (int i = -1; i < 13; i++) {
                    int v = upTo(2) == 0 ? random.nextInt() : upTo(120) - 2;
                    same("lay(" + s + ", " + form + ", " + i + ", " + v + ")", x.lay(s, form, i, v),
                        r.lay(s, form, i, v));
                }
            }
            case 36 -> {
                int i = upTo(15) - 1;
                same("get(" + s + ", " + form + ", " + i + ")", x.get(s, form, i), r.get(s, form, i));
            }
            case 37 -> {
                int i = upTo(8) - 1;
                int j = upTo(8) - 1;
                int t = upTo(3);
                int n = upTo(8) - 1;
                same("copy(" + s + ", " + i + ", " + t + ", " + j + ", " + n + ")", x.copy(s, i, t, j, n),
                    r.copy(s, i, t, j, n));
            }
            case 38 -> same("read(" + s + ")", x.read(s, upTo(0)), r.read(s, 0));
            case 39 -> same("rather(" + s + ")", x.rather(s), r.rather(s));
            default -> {
                int what = upTo(8);
                same("count(" + what + ")", x.count(what), r.count(what));
            }
        }
    }
}
