/** Small tales that the tests share, and a picture of all that an object shows. */
final class Tales {
    static final int BAD = -1002;
    static final int NONE = -1003;
    static final int CLASHED = -1004;
    static final int NOTHING = -1010;
    static final int PLACE = -1011;
    static final int SORT = -1012;
    static final int SIZE = -1013;

    interface Call {
        long on(TaleBench b);
    }

    private Tales() {
    }

    static void feed(TaleBench b, String text) {
        for (int i = 0; i < text.length(); i += 8) {
            int n = Math.min(8, text.length() - i);
            long w = 0;
            for (int j = 0; j < n; j++) {
                w |= (long) (text.charAt(i + j) & 255) << 8 * j;
            }
            b.feed(w, n);
        }
    }

    static int scene(TaleBench b, int s, int kind, String need) {
        feed(b, need);
        return b.scene(s, kind);
    }

    static int choice(TaleBench b, int s, int k, int to, String need) {
        feed(b, need);
        return b.choice(s, k, to);
    }

    /**
     * Something of all there is: a tale with each KIND, two kept ones that differ from it, a CUT, SHEETS of each SORT,
     * numbers that wait, a played row, a tape with a sign on it.
     */
    static TaleBench full() {
        TaleBench b = new TaleBench();
        b.scene(0, 0);
        scene(b, 1, 1, "a");
        scene(b, 2, 2, "");
        b.loss(2, 6);
        b.scene(3, 3);
        scene(b, 4, 4, "b|!c");
        b.start(8);
        b.keep(0);
        b.choice(0, 0, 1);
        b.gives(0, 0, 1, 8);
        b.line(0, 0, 40, 2);
        b.keep(1);
        choice(b, 0, 3, 2, "!a&d");
        b.choice(2, 1, 3);
        b.line(2, 1, 41, 2);
        b.cut(4, true);
        b.sheet(0, 0, 3);
        b.write(0, 1, 7);
        b.sheet(1, 1, 2);
        b.sheet(2, 2, 1);
        b.write(2, 0, -1010);
        b.tell(0);
        b.play();
        b.tell(3);
        b.tell(1);
        feed(b, "d");
        return b;
    }

    /** Spends the object: what it keeps, and what waits, shows only in calls that change it. */
    static String picture(TaleBench b) {
        StringBuilder p = new StringBuilder();
        p.append("counts");
        for (int what : new int[] {0, 1, 3, 5}) {
            p.append(' ').append(b.count(what));
        }
        p.append("\nat ").append(b.at(0)).append(' ').append(b.at(1)).append("\ncuts");
        for (int s = 0; s < 20; s++) {
            p.append(' ').append(b.of(s, 1));
        }
        tale(b, p);
        p.append("\nstates ").append(b.states(0)).append(' ').append(b.states(3)).append(' ').append(b.mend());
        p.append("\nplay ").append(b.play()).append(' ').append(b.at(0)).append(' ').append(b.at(1));
        p.append("\nsheets");
        for (int s = 0; s < 4; s++) {
            for (int i = 0; i < 4; i++) {
                p.append(' ').append(b.write(s, i, 70000)).append(' ').append(b.write(s, i, 0));
            }
        }
        p.append("\nneed ").append(b.scene(19, 1)).append(' ').append(b.of(19, 2));
        for (int which = 0; which < 2; which++) {
            p.append("\nkept ").append(b.back(which));
            tale(b, p);
        }
        return p.toString();
    }

    private static void tale(TaleBench b, StringBuilder p) {
        p.append("\nstart ").append(b.count(5));
        for (int s = 0; s < 20; s++) {
            int kind = b.of(s, 0);
            if (kind == -1) {
                continue;
            }
            p.append("\nscene ").append(s).append(": ").append(kind);
            for (int what = 2; what < 6; what++) {
                p.append(' ').append(b.of(s, what));
            }
            int bits = b.of(s, 5);
            for (int k = 0; k < 6; k++) {
                for (int what = 0; what < 7 && (bits >> k & 1) != 0; what++) {
                    p.append(what == 0 ? "\n  choice " + k + ": " : " ").append(b.about(s, k, what));
                }
            }
        }
    }

    /** A call on a full object answers a finding and changes nothing. */
    static void finding(String name, int want, Call call) {
        compare(name, want, full(), full(), call, false);
    }

    /** The same, on a full object that a call made ready. */
    static void findingAfter(String name, int want, Call ready, Call call) {
        TaleBench untouched = full();
        TaleBench b = full();
        ready.on(untouched);
        ready.on(b);
        compare(name, want, untouched, b, call, false);
    }

    /** A finding that empties the tape, and changes nothing else. */
    static void findingAndEmptyTape(String name, int want, Call call) {
        compare(name, want, full(), full(), call, true);
    }

    private static void compare(String name, int want, TaleBench untouched, TaleBench b, Call call, boolean empties) {
        Check.due(name, call.on(b), want);
        boolean ofHost = want <= NOTHING && want >= SIZE;
        Check.due(name + ", then count(4)", b.count(4), untouched.count(4) + (ofHost ? 1 : 0));
        Check.due(name + ", then count(2)", b.count(2), empties ? 0 : 1);
        if (empties) {
            feed(b, "d");
        }
        Check.due(name + ", then all", picture(b), picture(untouched));
    }
}
