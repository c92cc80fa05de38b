/** The sentences of the promises 1 to 11: needs, scenes, choices. */
final class SceneEdges implements Findings {
    /** In the worlds that something has been told to: a SCENE that is not there, a CHOICE that is not. */
    private static final int[] NOT_THERE = {5, 9, 19};
    private static final int[][] NO_CHOICE_THERE = {{0, 1}, {0, 5}, {1, 0}, {2, 0}, {3, 3}, {5, 0}, {9, 3}, {19, 5}};

    private SceneEdges() {
    }

    static void test() {
        p1NewObject();
        p2Feed();
        p3Scene();
        p3Tape();
        p3Refused();
        p4Loss();
        p5Choice();
        p5Refused();
        p6Gives();
        p7Line();
        p8Drop();
        p9Start();
        p10Of();
        p11About();
    }

    private static void p1NewObject() {
        Edges.says(1, "No SCENES");
        Run run = new Run().are("count", new long[0], 0, 0, 0, 0, 0, 0);
        for (int s = 0; s < 20; s++) {
            run.is(-1, "of", s, 0).is(0, "reached", s).is(0, "drop", s, 5);
        }
        run.is(0, "states", 0);
        Edges.says(1, "an empty tape");
        new Run().is(0, "count", 2).is(-1, "scene", 0, 1).is(0, "of", 0, 2).is(256, "of", 0, 3);
        new Run().is(1, "feed", 'h', 1).is(-1, "scene", 0, 1).is(128, "of", 0, 2);
        Edges.says(1, "all SHEETS MISSING");
        for (int s = 0; s < 4; s++) {
            new Run().is(NOTHING, "write", s, 0, 0).is(-1, "scene", 0, 0).is(NOTHING, "words", 0, s, 0, 0);
        }
        Edges.says(1, "nothing is CUT, or kept");
        run = new Run();
        for (int s = 0; s < 20; s++) {
            run.is(0, "of", s, 1).is(0, "cut", s, 0);
        }
        run.is(NOTHING, "back", 0).is(NOTHING, "back", 1).is(NOTHING, "melt").is(NOTHING, "clash", 0);
    }

    private static void p2Feed() {
        Edges.says(2, "The n lowest bytes of w, the lowest first, come to the tape: how many it has");
        String[] texts = {"h", "!h", "a&c", "b|!c", "a|b&h", "!a&b|c", "a&b&c&d", "!(a|h)&c"};
        int[] reads = {128, 128, 5, 6, 131, 7, 15, 133};
        int[] holds = {128, 128, 64, 192, 160, 160, 16, 32};
        for (int n = 1; n <= 8; n++) {
            for (long rest : new long[] {0, -1}) {
                new Run().is(n, "feed", Tales.bytes(texts[n - 1], 0, n, rest), n).is(-1, "scene", 0, 1)
                    .is(reads[n - 1], "of", 0, 2).is(holds[n - 1], "of", 0, 3);
            }
        }
        new Run().is(8, "feed", -1, 8).is(9, "feed", Long.MIN_VALUE, 1).is(17, "feed", Long.MAX_VALUE, 8)
            .is(17, "count", 2).is(WRONG, "scene", 0, 1).is(2, "feed", 0x2621L, 2).is(WRONG - 1, "scene", 0, 1)
            .is(1, "feed", 'a', 1).is(2, "feed", '&', 1).is(3, "feed", 'b', 1).is(-1, "scene", 0, 1)
            .is(3, "of", 0, 2);
        Edges.says(2, "BAD: n is not 1 .. 8, or there would be more than 100");
        for (int n : new int[] {0, -1, 9, 100, 101, LEAST, MOST}) {
            Edges.refused(BAD, "feed", 97, n);
        }
        for (int n = 1; n <= 8; n++) {
            Edges.refusedIn(World.BRIM, BAD, "feed", 97, n);
            // As many as there is room for, and one more.
            new Run().text("i".repeat(100 - n)).is(100, "feed", 97, n).is(BAD, "feed", 97, 1).is(100, "count", 2);
            new Run().text("i".repeat(101 - n)).is(BAD, "feed", 97, n).is(101 - n, "count", 2);
        }
    }

    private static void p3Scene() {
        Edges.says(3, "SCENE s is of a KIND from now on (0 to 4; -1: it is not there, nor are its CHOICES): what it "
            + "was, -1 for none");
        for (int s : new int[] {0, 7, 19}) {
            for (int before = -1; before < 5; before++) {
                for (int kind = -1; kind < 5; kind++) {
                    new Run().is(-1, "scene", s, before).is(before, "scene", s, kind).is(kind, "of", s, 0)
                        .is(kind == -1 ? 0 : 1, "count", 0).is(0, "count", 4);
                }
            }
            Run run = new Run().does("scene", s, 0);
            for (int k = 0; k < 6; k++) {
                run.does("choice", s, k, s);
            }
            run.is(6, "count", 1).is(0, "scene", s, -1).is(0, "count", 1).is(0, "drop", s, 0).is(0, "drop", s, 5)
                .is(-1, "scene", s, 0).is(0, "of", s, 5).is(0, "count", 1);
        }
        Edges.says(3, "(What CHOICES it has stay, but for -1.)");
        for (int kind = 0; kind < 5; kind++) {
            Run run = new Run().does("scene", 4, 2).choice(4, 0, 9, "!a").does("gives", 4, 0, 7, 8)
                .does("line", 4, 0, 99, 3).does("choice", 4, 5, 4).does("scene", 5, 0).does("choice", 5, 2, 4)
                .is(2, "scene", 4, kind).is(33, "of", 4, 5).is(3, "count", 1)
                .are("about", new long[] {4, 0}, 9, 1, 128, 7, 8, 99, 3)
                .are("about", new long[] {4, 5}, 4, 0, 256, 0, 0, 0, 0);
            run.does("scene", 4, -1).is(1, "count", 1).is(4, "about", 5, 2, 0);
        }
        Edges.says(3, "Its SET is empty then");
        for (int kind = -1; kind < 5; kind++) {
            new Run().does("scene", 1, 2).does("loss", 1, 255).does("scene", 1, kind)
                .is(kind == -1 ? NOTHING : 0, "of", 1, 4).does("scene", 1, 2).is(0, "of", 1, 4).is(0, "loss", 1, 1);
        }
    }

    private static void p3Tape() {
        Edges.says(3, "of KINDS 1, 2, 4 the tape is the TEXT of its NEED (an empty tape: the NEED of nothing)");
        for (int kind : new int[] {1, 2, 4}) {
            new Run().text("b&h").is(-1, "scene", 1, kind).is(130, "of", 1, 2).is(64, "of", 1, 3)
                .is(kind, "scene", 1, kind).is(0, "of", 1, 2).is(256, "of", 1, 3)
                .text("i").is(WRONG, "scene", 1, kind);
        }
        for (int kind : new int[] {0, 3, -1}) {
            // No NEED, whatever the tape says, and none of one that it had.
            new Run().scene(1, 1, "a").text("i".repeat(100)).is(1, "scene", 1, kind).is(0, "count", 2)
                .is(kind == -1 ? NOTHING : 0, "of", 1, 2).is(kind == -1 ? NOTHING : 256, "of", 1, 3)
                .is(kind, "scene", 1, 1).is(0, "of", 1, 2);
        }
        Edges.says(3, "The tape is empty then, whatever is answered");
        for (int kind = -1; kind < 5; kind++) {
            new Run().text("a").is(-1, "scene", 1, kind).is(0, "count", 2).is(1, "feed", 'b', 1).is(1, "count", 2);
        }
        for (int[] call : new int[][] {{20, 1}, {-1, 0}, {1, 5}, {1, -2}}) {
            new Run().text("a&").is(BAD, "scene", call[0], call[1]).is(0, "count", 2)
                .text("b").is(-1, "scene", 1, 1).is(2, "of", 1, 2);
        }
        new Run().text("a&").is(WRONG - 2, "scene", 1, 1).is(0, "count", 2).text("b").is(-1, "scene", 1, 1)
            .is(2, "of", 1, 2);
    }

    private static void p3Refused() {
        Edges.says(3, "BAD: no such SCENE, KIND");
        for (int s : NO_SCENES) {
            for (int kind : new int[] {-1, 0, 4}) {
                Edges.refused(BAD, "scene", s, kind);
            }
        }
        for (int kind : new int[] {-2, 5, LEAST, MOST}) {
            for (int s : new int[] {0, 2, 19, 20}) {
                Edges.refused(BAD, "scene", s, kind);
            }
        }
        Edges.says(3, "-1100 less WRONG");
        for (int s : new int[] {0, 1, 2, 3, 4, 9, 19}) {
            for (int kind : new int[] {1, 2, 4}) {
                Edges.refusedIn(World.BRIM, WRONG - 60, "scene", s, kind);
            }
        }
        for (int place = 0; place < 61; place++) {
            String text = "a|".repeat(30).substring(0, place);
            String wrong = place == 60 ? text : text + "i";
            new Run().text("a").does("scene", 1, 2).does("loss", 1, 7).does("choice", 1, 0, 0)
                .text(wrong).is(WRONG - place, "scene", 1, 4).are("of", new long[] {1}, 2, 0, 1, 128, 7, 1);
        }
    }

    private static void p4Loss() {
        Edges.says(4, "The SET of a LOSS becomes a set: what it was");
        for (int s : new int[] {0, 19}) {
            new Run().does("scene", s, 2).is(0, "loss", s, 255).is(255, "loss", s, 0).is(0, "loss", s, 128)
                .is(128, "of", s, 4).is(128, "loss", s, 1).is(1, "of", s, 4);
        }
        // What can be come to is another one at once.
        new Run().does("scene", 0, 0).does("scene", 1, 2).does("choice", 0, 0, 1).does("gives", 0, 0, 1, 0)
            .does("choice", 1, 0, 0).is(3, "states", 0).does("loss", 1, 1).is(2, "states", 0).does("loss", 1, 2)
            .is(3, "states", 0);
        Edges.says(4, "BAD: no such SCENE, or set is not 0 .. 255");
        for (int s : NO_SCENES) {
            Edges.refused(BAD, "loss", s, 0);
            Edges.refused(BAD, "loss", s, 256);
        }
        for (int set : NO_SETS) {
            for (int s : new int[] {2, 0, 9}) {
                Edges.refused(BAD, "loss", s, set);
            }
        }
        Edges.says(4, "NOTHING: it is not there");
        for (int s : NOT_THERE) {
            Edges.refused(NOTHING, "loss", s, 0);
            Edges.refused(NOTHING, "loss", s, 255);
        }
        new Run().does("scene", 0, 2).does("loss", 0, 3).does("scene", 0, -1).is(NOTHING, "loss", 0, 1);
        Edges.says(4, "SORT: it is of another KIND");
        for (int s : new int[] {0, 1, 3, 4}) {
            Edges.refusedIfTold(SORT, "loss", s, 0);
            Edges.refusedIfTold(SORT, "loss", s, 255);
        }
    }

    private static void p5Choice() {
        Edges.says(5, "CHOICE k of SCENE s leads TO a SCENE from now on, with the tape as the TEXT of its NEED (as of "
            + "scene())");
        for (int s : new int[] {0, 19}) {
            for (int to : new int[] {0, 10, 19}) {
                for (int k = 0; k < 6; k++) {
                    new Run().does("scene", s, 0).text("b&!h").is(0, "choice", s, k, to).is(to, "about", s, k, 0)
                        .is(130, "about", s, k, 1).is(64, "about", s, k, 2).is(1 << k, "of", s, 5)
                        .is(1, "choice", s, k, 19 - to).is(19 - to, "about", s, k, 0).is(0, "about", s, k, 1)
                        .is(256, "about", s, k, 2).is(1, "count", 1);
                }
            }
        }
        Edges.says(5, "it GIVES, TAKES nothing, has no WORDS and VOICE 0: 1 if it was there, else 0");
        new Run().does("scene", 0, 3).is(0, "choice", 0, 5, 19).are("about", new long[] {0, 5}, 19, 0, 256, 0, 0, 0, 0)
            .does("gives", 0, 5, 3, 4).does("line", 0, 5, 99, 3).is(1, "choice", 0, 5, 0)
            .are("about", new long[] {0, 5}, 0, 0, 256, 0, 0, 0, 0)
            .does("drop", 0, 5).is(0, "choice", 0, 5, 1).is(0, "choice", 0, 4, 1)
            .does("scene", 0, -1).does("scene", 0, 0).is(0, "choice", 0, 5, 1);
        Edges.says(5, "The tape is empty then, whatever is answered");
        new Run().does("scene", 0, 0).text("a").is(0, "choice", 0, 0, 0).is(0, "count", 2)
            .text("b").is(1, "choice", 0, 0, 0).is(2, "about", 0, 0, 1)
            .text("a&").is(BAD, "choice", 20, 0, 0).is(0, "count", 2)
            .text("a&").is(BAD, "choice", 0, 6, 0).is(0, "count", 2)
            .text("a&").is(BAD, "choice", 0, 0, 20).is(0, "count", 2)
            .text("a&").is(NOTHING, "choice", 1, 0, 0).is(0, "count", 2)
            .text("a&").is(WRONG - 2, "choice", 0, 0, 0).is(0, "count", 2)
            .text("c").is(1, "choice", 0, 0, 0).is(4, "about", 0, 0, 1);
    }

    private static void p5Refused() {
        Edges.says(5, "BAD: no such SCENE, CHOICE, or TO");
        for (int s : NO_SCENES) {
            Edges.refused(BAD, "choice", s, 0, 0);
            Edges.refused(BAD, "choice", 0, 0, s);
            Edges.refused(BAD, "choice", 9, 0, s);
        }
        for (int k : NO_CHOICES) {
            Edges.refused(BAD, "choice", 0, k, 0);
            Edges.refused(BAD, "choice", 9, k, 0);
        }
        Edges.says(5, "NOTHING: SCENE s is not there");
        for (int s : NOT_THERE) {
            Edges.refused(NOTHING, "choice", s, 0, 0);
            Edges.refused(NOTHING, "choice", s, 5, s);
        }
        new Run().does("scene", 0, 0).does("choice", 0, 0, 0).does("scene", 0, -1).is(NOTHING, "choice", 0, 0, 0)
            .does("scene", 0, 0).is(0, "of", 0, 5);
        Edges.says(5, "-1100 less WRONG");
        for (int[] choice : new int[][] {{0, 0}, {0, 1}, {2, 5}, {3, 5}, {4, 0}}) {
            Edges.refusedIn(World.BRIM, WRONG - 60, "choice", choice[0], choice[1], 19);
        }
        for (int place = 0; place < 61; place++) {
            String text = "h&".repeat(30).substring(0, place);
            String wrong = place == 60 ? text : text + ")";
            new Run().does("scene", 0, 0).text("a").does("choice", 0, 0, 3).does("gives", 0, 0, 1, 2)
                .does("line", 0, 0, 5, 1).text(wrong).is(WRONG - place, "choice", 0, 0, 4)
                .are("about", new long[] {0, 0}, 3, 1, 128, 1, 2, 5, 1).text(wrong).is(WRONG - place, "choice", 0, 1, 4)
                .is(1, "of", 0, 5);
        }
    }

    private static void p6Gives() {
        Edges.says(6, "A CHOICE GIVES one set and TAKES another one: 1");
        for (int s : new int[] {0, 19}) {
            for (int k : new int[] {0, 5}) {
                Run run = new Run().does("scene", s, 0).choice(s, k, 7, "h").does("line", s, k, 9, 2);
                for (int[] sets : new int[][] {{0, 0}, {255, 0}, {0, 255}, {0x55, 0xaa}, {128, 1}, {0, 0}}) {
                    run.is(1, "gives", s, k, sets[0], sets[1])
                        .are("about", new long[] {s, k}, 7, 128, 128, sets[0], sets[1], 9, 2);
                }
            }
        }
        Edges.says(6, "BAD: no such SCENE, CHOICE, or a set is not 0 .. 255, or a FACT is in both");
        for (int s : NO_SCENES) {
            Edges.refused(BAD, "gives", s, 0, 2, 4);
        }
        for (int k : NO_CHOICES) {
            Edges.refused(BAD, "gives", 0, k, 2, 4);
        }
        for (int[] choice : new int[][] {{0, 0}, {0, 1}, {9, 0}}) {
            for (int set : NO_SETS) {
                Edges.refused(BAD, "gives", choice[0], choice[1], set, 0);
                Edges.refused(BAD, "gives", choice[0], choice[1], 0, set);
                Edges.refused(BAD, "gives", choice[0], choice[1], set, set);
            }
            for (int[] both : new int[][] {{1, 1}, {128, 128}, {255, 255}, {3, 6}, {255, 16}}) {
                Edges.refused(BAD, "gives", choice[0], choice[1], both[0], both[1]);
            }
        }
        Edges.says(6, "NOTHING: it is not there");
        for (int[] choice : NO_CHOICE_THERE) {
            Edges.refused(NOTHING, "gives", choice[0], choice[1], 2, 4);
            Edges.refused(NOTHING, "gives", choice[0], choice[1], 0, 0);
        }
    }

    private static void p7Line() {
        Edges.says(7, "WORDS and VOICE of a CHOICE: 1");
        for (int s : new int[] {0, 19}) {
            for (int k : new int[] {0, 5}) {
                Run run = new Run().does("scene", s, 0).choice(s, k, 7, "h").does("gives", s, k, 9, 2);
                for (int[] line : new int[][] {{0, 0}, {99, 3}, {99, 0}, {0, 3}, {1, 1}, {98, 2}}) {
                    run.is(1, "line", s, k, line[0], line[1])
                        .are("about", new long[] {s, k}, 7, 128, 128, 9, 2, line[0], line[1]);
                }
            }
        }
        Edges.says(7, "BAD: no such SCENE, CHOICE, words is not 0 .. 99, voice not 0 .. 3");
        for (int s : NO_SCENES) {
            Edges.refused(BAD, "line", s, 0, 1, 1);
        }
        for (int k : NO_CHOICES) {
            Edges.refused(BAD, "line", 0, k, 1, 1);
        }
        for (int[] choice : new int[][] {{0, 0}, {0, 1}, {9, 0}}) {
            for (int words : new int[] {-1, 100, LEAST, MOST}) {
                Edges.refused(BAD, "line", choice[0], choice[1], words, 1);
            }
            for (int voice : new int[] {-1, 4, LEAST, MOST}) {
                Edges.refused(BAD, "line", choice[0], choice[1], 1, voice);
            }
        }
        Edges.says(7, "NOTHING: it is not there");
        for (int[] choice : NO_CHOICE_THERE) {
            Edges.refused(NOTHING, "line", choice[0], choice[1], 0, 0);
            Edges.refused(NOTHING, "line", choice[0], choice[1], 99, 3);
        }
    }

    private static void p8Drop() {
        Edges.says(8, "A CHOICE is not there any more: 1 if it was, else 0");
        for (int s : new int[] {0, 19}) {
            Run run = new Run().is(0, "drop", s, 0).does("scene", s, 0).is(0, "drop", s, 5);
            for (int k = 0; k < 6; k++) {
                run.does("choice", s, k, s);
            }
            for (int k = 0; k < 6; k++) {
                run.is(1, "drop", s, k).is(0, "drop", s, k).is(63 & -(2 << k), "of", s, 5).is(5 - k, "count", 1)
                    .is(NOTHING, "about", s, k, 0);
            }
            run.does("scene", s, -1).is(0, "drop", s, 0).is(6, "count", 4);
        }
        // What it had is gone for good.
        new Run().does("scene", 0, 0).choice(0, 0, 0, "a").does("gives", 0, 0, 1, 2).does("line", 0, 0, 9, 3)
            .does("keep", 0).does("drop", 0, 0).does("keep", 1).does("choice", 0, 0, 0)
            .are("about", new long[] {0, 0}, 0, 0, 256, 0, 0, 0, 0).does("drop", 0, 0).is(0, "melt");
        Edges.says(8, "BAD: no such SCENE, CHOICE");
        for (int s : NO_SCENES) {
            Edges.refused(BAD, "drop", s, 0);
        }
        for (int k : NO_CHOICES) {
            Edges.refused(BAD, "drop", 0, k);
            Edges.refused(BAD, "drop", 9, k);
        }
    }

    private static void p9Start() {
        Edges.says(9, "THE START becomes a set: what it was");
        new Run().is(0, "start", 255).is(255, "count", 5).is(255, "start", 0).is(0, "start", 128).is(128, "start", 1)
            .is(1, "start", 1).is(1, "count", 5);
        Edges.says(9, "BAD: it is not 0 .. 255");
        for (int set : NO_SETS) {
            Edges.refused(BAD, "start", set);
        }
    }

    private static void p10Of() {
        Edges.says(10, "Of a SCENE: 0 its KIND (-1: not there), 1 whether it is CUT, 2 the FACTS that its NEED READS, "
            + "3 for how many sets that holds (256 without one), 4 its SET, 5 a bit for each CHOICE that is there");
        for (int s : new int[] {0, 19}) {
            Run run = new Run().is(-1, "of", s, 0).is(0, "of", s, 1).does("cut", s, 1).is(-1, "of", s, 0)
                .is(1, "of", s, 1);
            for (int kind = 0; kind < 5; kind++) {
                boolean needs = kind == 1 || kind == 2 || kind == 4;
                run.scene(s, kind, "a&h").does("loss", s, 255)
                    .are("of", new long[] {s}, kind, 1, needs ? 129 : 0, needs ? 64 : 256, kind == 2 ? 255 : 0, 0);
            }
            run.scene(s, 1, "0").is(0, "of", s, 3).scene(s, 1, "1").is(256, "of", s, 3).does("cut", s, 0)
                .is(0, "of", s, 1);
            for (int k = 5; k >= 0; k--) {
                run.does("choice", s, k, 9).is(64 - (1 << k), "of", s, 5);
            }
        }
        Edges.says(10, "BAD: no such SCENE, what");
        for (int s : NO_SCENES) {
            for (int what = 0; what < 6; what++) {
                Edges.refused(BAD, "of", s, what);
            }
        }
        for (int what : new int[] {-1, 6, LEAST, MOST}) {
            Edges.refused(BAD, "of", 0, what);
            Edges.refused(BAD, "of", 9, what);
        }
        Edges.says(10, "NOTHING: (but 0, 1) it is not there");
        for (int s : NOT_THERE) {
            new Run().is(-1, "of", s, 0).is(0, "of", s, 1).is(0, "count", 4);
            for (int what = 2; what < 6; what++) {
                Edges.refused(NOTHING, "of", s, what);
            }
        }
    }

    private static void p11About() {
        Edges.says(11, "Of a CHOICE: 0 TO, 1 the FACTS that its NEED READS, 2 for how many sets that holds, 3 GIVES, "
            + "4 TAKES, 5 WORDS, 6 VOICE");
        for (int s : new int[] {0, 19}) {
            for (int k : new int[] {0, 5}) {
                new Run().does("scene", s, 4).choice(s, k, 19, "a&b&c&d&e&f&g&h").does("gives", s, k, 254, 1)
                    .does("line", s, k, 99, 3).are("about", new long[] {s, k}, 19, 255, 1, 254, 1, 99, 3)
                    .choice(s, k, 0, "0").are("about", new long[] {s, k}, 0, 0, 0, 0, 0, 0, 0)
                    .choice(s, k, 0, "").are("about", new long[] {s, k}, 0, 0, 256, 0, 0, 0, 0);
            }
        }
        Edges.says(11, "BAD: no such SCENE, CHOICE, what");
        for (int s : NO_SCENES) {
            Edges.refused(BAD, "about", s, 0, 0);
            Edges.refused(BAD, "about", s, 5, 6);
        }
        for (int k : NO_CHOICES) {
            Edges.refused(BAD, "about", 0, k, 0);
            Edges.refused(BAD, "about", 9, k, 6);
        }
        for (int what : new int[] {-1, 7, LEAST, MOST}) {
            Edges.refused(BAD, "about", 0, 0, what);
            Edges.refused(BAD, "about", 0, 1, what);
            Edges.refused(BAD, "about", 9, 0, what);
        }
        Edges.says(11, "NOTHING: it is not there");
        for (int[] choice : NO_CHOICE_THERE) {
            for (int what = 0; what < 7; what++) {
                Edges.refused(NOTHING, "about", choice[0], choice[1], what);
            }
        }
    }
}
