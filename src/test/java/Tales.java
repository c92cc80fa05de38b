/** Texts, and a small tale that tests share. */
final class Tales {
    private Tales() {
    }

    static void feed(TaleBench b, String text) {
        for (int i = 0; i < text.length(); i += 8) {
            int n = Math.min(8, text.length() - i);
            b.feed(bytes(text, i, n, 0), n);
        }
    }

    /** n signs of a text as feed() takes them, with the bytes of rest above them. */
    static long bytes(String text, int from, int n, long rest) {
        long w = rest;
        for (int j = 0; j < n; j++) {
            w = w & ~(255L << 8 * j) | (text.charAt(from + j) & 255L) << 8 * j;
        }
        return w;
    }

    static int scene(TaleBench b, int s, int kind, String need) {
        feed(b, need);
        return b.scene(s, kind);
    }

    static int choice(TaleBench b, int s, int k, int to, String need) {
        feed(b, need);
        return b.choice(s, k, to);
    }

    /**
     * Something of all there is: a tale with each KIND, two kept ones that differ from it, a CUT, SHEETS of each SORT,
     * numbers that wait, a played row, a tape with a sign on it.
     */
    static TaleBench full() {
        TaleBench b = new TaleBench();
        b.scene(0, 0);
        scene(b, 1, 1, "a");
        scene(b, 2, 2, "");
        b.loss(2, 6);
        b.scene(3, 3);
        scene(b, 4, 4, "b|!c");
        b.start(8);
        b.keep(0);
        b.choice(0, 0, 1);
        b.gives(0, 0, 1, 8);
        b.line(0, 0, 40, 2);
        b.keep(1);
        choice(b, 0, 3, 2, "!a&d");
        b.choice(2, 1, 3);
        b.line(2, 1, 41, 2);
        b.cut(4, true);
        b.sheet(0, 0, 3);
        b.write(0, 1, 7);
        b.sheet(1, 1, 2);
        b.sheet(2, 2, 1);
        b.write(2, 0, -1010);
        b.tell(0);
        b.play();
        b.tell(3);
        b.tell(1);
        feed(b, "d");
        return b;
    }
}
