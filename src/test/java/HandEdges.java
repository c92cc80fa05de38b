/** The sentences of the promises 26 to 33: play, hands. */
final class HandEdges implements Findings {
    /** All but 0 and 1, as far as edges go. */
    private static final int[] NEITHER = {-1, 2, LEAST, MOST};

    private HandEdges() {
    }

    static void test() {
        p26Tell();
        p27Play();
        p28At();
        p29Keep();
        p30Back();
        p31Melt();
        p31MeltedScenes();
        p31Refused();
        p32Clash();
        p33Count();
        p33Findings();
    }

    private static Run tell(Run run, int... numbers) {
        for (int v : numbers) {
            run.does("tell", v);
        }
        return run;
    }

    private static void p26Tell() {
        Edges.says(26, "One more number waits: how many");
        Run run = new Run();
        int[] numbers = {LEAST, -1, 0, 5, 6, MOST};
        for (int n = 1; n <= 30; n++) {
            run.is(n, "tell", numbers[n % 6]).is(n, "count", 3);
        }
        Edges.says(26, "BAD: 30 wait");
        run.is(BAD, "tell", 0).is(30, "count", 3).is(BAD, "tell", MOST).is(NONE, "play").is(0, "count", 3)
            .is(1, "tell", 0);
        for (int v : numbers) {
            Edges.refusedIn(World.BRIM, BAD, "tell", v);
        }
    }

    /** SCENES 0 and 1 lead to one another by CHOICE 0, from 0 to the ENDING (2) by 5; nobody comes to 3 behind it. */
    private static Run toAndFro() {
        return new Run().does("scene", 0, 0).does("scene", 1, 0).does("scene", 2, 3).does("scene", 3, 0)
            .does("choice", 0, 0, 1).does("gives", 0, 0, 1, 0).does("choice", 1, 0, 0).does("choice", 0, 5, 2)
            .does("choice", 2, 0, 3).choice(1, 3, 2, "h");
    }

    private static void p27Play() {
        Edges.says(27, "The numbers that wait (none do then, whatever is answered) are CHOICES that are played from "
            + "THE BEGINNING on: how many are OPEN one behind the other, till the first one that is not");
        toAndFro().is(0, "play").is(0, "at", 0).is(0, "count", 3);
        for (int v : new int[] {-1, 6, LEAST, MOST, 1, 4}) {
            // No CHOICE, or not there: as the first, in the middle, as the last one.
            tell(toAndFro(), v).is(0, "play").is(0, "at", 0).is(0, "count", 3).is(0, "play");
            tell(toAndFro(), 0, v, 0).is(1, "play").is(1, "at", 0).is(1, "at", 1).is(0, "count", 3);
            tell(toAndFro(), 0, 0, v).is(2, "play").is(0, "at", 0).is(1, "at", 1);
        }
        tell(toAndFro(), 0, 3).is(1, "play").is(1, "at", 0).does("start", 128).does("tell", 0).does("tell", 3)
            .is(2, "play").is(2, "at", 0).is(129, "at", 1);
        // An ENDING ends it; from THE BEGINNING each time anew.
        tell(toAndFro(), 5, 0, 0).is(1, "play").is(2, "at", 0).does("tell", 0).is(1, "play").is(1, "at", 0);
        tell(toAndFro(), new int[30]).is(30, "count", 3).is(30, "play").is(0, "at", 0).is(1, "at", 1).is(0, "count", 3);
        tell(toAndFro(), new int[30]).does("cut", 1, 1).is(0, "play").is(0, "at", 0);
        tell(toAndFro(), 0, 0).does("drop", 1, 0).is(1, "play").is(1, "at", 0);
        Edges.says(27, "NONE: there is no BEGINNING");
        Edges.refusedIn(World.BLANK, NONE, "play");
        Edges.refusedIn(World.NO_BEGINNING, NONE, "play");
        tell(toAndFro(), 0, 0).does("scene", 0, -1).is(NONE, "play").is(0, "count", 3).is(0, "count", 4)
            .does("scene", 0, 0).is(0, "play").is(0, "at", 0);
    }

    private static void p28At() {
        Edges.says(28, "Where that came to: 0 the SCENE, 1 the FACTS");
        TermEdges.chain(3).does("start", 255).is(0, "play").is(0, "at", 0).is(255, "at", 1);
        int[] far = new int[30];
        java.util.Arrays.fill(far, 5);
        // As it was played, whatever has become of the tale.
        tell(TermEdges.chain(3), far).is(19, "play").is(19, "at", 0).is(0, "at", 1).does("start", 9)
            .does("scene", 19, -1).does("cut", 0, 1).is(19, "at", 0).is(0, "at", 1).is(NONE, "play").is(19, "at", 0)
            .does("cut", 0, 0).is(19, "at", 0).is(0, "play").is(0, "at", 0).is(9, "at", 1);
        Edges.says(28, "NONE: play() has not yet told a number");
        Edges.refusedIn(World.BLANK, NONE, "at", 0);
        Edges.refusedIn(World.BLANK, NONE, "at", 1);
        for (int what : NEITHER) {
            Edges.refusedIn(World.BLANK, NONE, "at", what);
        }
        new Run().is(NONE, "play").is(NONE, "at", 0).does("tell", 0).is(NONE, "play").is(NONE, "at", 1)
            .does("scene", 0, 0).is(NONE, "at", 0).is(0, "play").is(0, "at", 0).is(0, "at", 1);
        Edges.says(28, "BAD: another what");
        for (int what : NEITHER) {
            Edges.refusedIfTold(BAD, "at", what);
        }
    }

    private static void p29Keep() {
        Edges.says(29, "THE TALE is kept as THE BASE (which 0) or THE OTHER (1): 1");
        for (int which = 0; which < 2; which++) {
            // A copy of its own, one alone, and the last one that was kept.
            new Run().is(1, "keep", which).is(NOTHING, "back", 1 - which).does("start", 3).does("scene", 19, 2)
                .does("loss", 19, 4).does("choice", 19, 5, 0).does("line", 19, 5, 9, 1).is(1, "back", which)
                .is(0, "count", 5).is(-1, "of", 19, 0).does("scene", 19, 2).does("loss", 19, 5).does("choice", 19, 5, 7)
                .does("gives", 19, 5, 1, 2).does("line", 19, 5, 8, 3).does("start", 255).is(1, "keep", which)
                .does("loss", 19, 6).does("choice", 19, 5, 6).does("start", 1).is(1, "back", which)
                .is(255, "count", 5).is(5, "of", 19, 4).are("about", new long[] {19, 5}, 7, 0, 256, 1, 2, 8, 3)
                .is(NOTHING, "back", 1 - which);
        }
        new Run().does("start", 1).is(1, "keep", 0).does("start", 2).is(1, "keep", 1).does("start", 3).is(1, "back", 0)
            .is(1, "count", 5).is(1, "back", 1).is(2, "count", 5).is(1, "keep", 0).is(1, "back", 0).is(2, "count", 5);
        Edges.says(29, "BAD: another which");
        for (int which : NEITHER) {
            Edges.refused(BAD, "keep", which);
        }
    }

    private static void p30Back() {
        Edges.says(30, "THE TALE is as THE BASE (which 0) or THE OTHER (1): 1");
        for (int which = 0; which < 2; which++) {
            TermEdges.chain(4).scene(19, 4, "h").does("start", 128).is(1, "states", 1).does("keep", which)
                .does("scene", 5, -1).does("start", 0).does("choice", 7, 0, 7).is(0, "states", 1).is(19, "count", 0)
                .is(1, "back", which).is(1, "states", 1).is(20, "count", 0).is(20, "count", 1).is(128, "count", 5)
                .is(128, "of", 19, 2).is(19, "way", 19)
                // What is kept stays as it is, however often it is taken.
                .does("start", 7).does("scene", 0, -1).is(1, "back", which).is(1, "back", which).is(1, "states", 1)
                .is(0, "of", 0, 0);
            new Run().does("keep", which).does("scene", 0, 0).is(1, "back", which).is(0, "count", 0).is(0, "states", 0);
        }
        for (int which = 0; which < 2; which++) {
            // NEEDS, too, and what they READ.
            new Run().scene(0, 1, "a&b").choice(0, 0, 0, "c|d").does("keep", which).scene(0, 1, "g").choice(0, 0, 0, "")
                .is(64, "live", 0).does("back", which).is(3, "of", 0, 2).is(64, "of", 0, 3).is(12, "about", 0, 0, 1)
                .is(192, "about", 0, 0, 2).is(15, "live", 0);
        }
        Edges.says(30, "BAD: another which");
        for (int which : NEITHER) {
            Edges.refused(BAD, "back", which);
        }
        Edges.says(30, "NOTHING: none is kept so");
        Edges.refusedIn(World.BLANK, NOTHING, "back", 0);
        Edges.refusedIn(World.BLANK, NOTHING, "back", 1);
        for (int which = 0; which < 2; which++) {
            new Run().does("start", 3).does("scene", 1, 1).does("keep", 1 - which).does("start", 4)
                .is(NOTHING, "back", which).is(4, "count", 5).is(1, "of", 1, 0).is(1, "count", 4);
        }
    }

    private static void p31Melt() {
        Edges.says(31, "THE OTHER's changes come to THE TALE: each ITEM that differs there from THE BASE's is as in "
            + "THE OTHER: how many of these were not so already");
        new Run().does("keep", 0).does("keep", 1).is(0, "melt").does("start", 5).is(0, "melt").is(5, "count", 5);
        // Ours: START, SCENE 1; theirs: SCENES 2 and 3, a CHOICE; both's: SCENE 4, told alike.
        Run run = new Run().does("scene", 0, 0).does("scene", 1, 0).does("scene", 2, 0).does("choice", 0, 0, 1)
            .does("keep", 0).scene(2, 1, "a").does("scene", 3, 2).does("loss", 3, 255).does("choice", 0, 0, 2)
            .does("gives", 0, 0, 1, 0).does("line", 0, 0, 9, 1).does("scene", 4, 3).does("keep", 1).does("back", 0)
            .does("start", 64).does("scene", 1, 3).does("scene", 4, 3).is(2, "states", 0);
        run.is(3, "melt").is(64, "count", 5).is(3, "of", 1, 0).is(1, "of", 2, 0).is(1, "of", 2, 2).is(128, "of", 2, 3)
            .is(255, "of", 3, 4).are("about", new long[] {0, 0}, 2, 0, 256, 1, 0, 9, 1).is(3, "of", 4, 0)
            .is(2, "states", 0).is(1, "reached", 2).is(0, "melt")
            // Neither THE BASE nor THE OTHER has changed.
            .is(1, "back", 1).is(0, "count", 5).is(0, "of", 1, 0).is(1, "back", 0).is(-1, "of", 3, 0)
            .is(1, "about", 0, 0, 0);
        new Run().scene(0, 1, "a").choice(0, 0, 0, "b").does("keep", 0).scene(0, 1, "c&h").choice(0, 0, 0, "d|!h")
            .does("keep", 1).scene(0, 1, "a").choice(0, 0, 0, "b").is(2, "melt").is(132, "of", 0, 2).is(64, "of", 0, 3)
            .is(136, "about", 0, 0, 1).is(192, "about", 0, 0, 2).is(140, "live", 0);
        // What THE OTHER has not any more goes.
        new Run().does("scene", 0, 0).does("choice", 0, 0, 0).does("choice", 0, 5, 0).does("start", 1).does("keep", 0)
            .does("drop", 0, 5).does("start", 0).does("keep", 1).does("back", 0).is(2, "melt").is(1, "of", 0, 5)
            .is(0, "count", 5).is(0, "melt");
    }

    private static void p31MeltedScenes() {
        Edges.says(31, "(CHOICES of a SCENE that is not there then are not there either.)");
        for (int s : new int[] {0, 19}) {
            // They take the SCENE away, we have a new CHOICE of it.
            new Run().does("scene", s, 0).does("keep", 0).does("scene", s, -1).does("keep", 1).does("back", 0)
                .does("choice", s, 0, 0).does("choice", s, 5, 0).is(1, "melt").is(-1, "of", s, 0).is(0, "count", 1)
                .is(0, "drop", s, 0).is(0, "drop", s, 5).does("scene", s, 0).is(0, "of", s, 5);
            // We take it away, they have a new CHOICE of it: it comes, and goes.
            new Run().does("scene", s, 0).does("keep", 0).does("choice", s, 5, 0).does("keep", 1).does("back", 0)
                .does("scene", s, -1).is(1, "melt").is(-1, "of", s, 0).is(0, "count", 1).does("scene", s, 0)
                .is(0, "of", s, 5).is(1, "melt").is(32, "of", s, 5).is(0, "melt");
        }
        // All of its CHOICES go with it, each of them a change of theirs.
        Run run = new Run().does("scene", 7, 0);
        for (int k = 0; k < 6; k++) {
            run.does("choice", 7, k, 7);
        }
        run.does("keep", 0).does("scene", 7, -1).does("keep", 1).does("back", 0).is(7, "melt").is(0, "count", 1)
            .is(0, "count", 0);
    }

    private static void p31Refused() {
        Edges.says(31, "NOTHING: THE BASE or THE OTHER is not kept");
        Edges.refusedIn(World.BLANK, NOTHING, "melt");
        for (int which = 0; which < 2; which++) {
            new Run().does("start", 1).does("keep", which).does("start", 2).is(NOTHING, "melt").is(2, "count", 5)
                .is(1, "count", 4).does("keep", 1 - which).is(which, "melt");
        }
        Edges.says(31, "CLASHED: some ITEM differs in THE TALE, in THE OTHER and in THE BASE, each from both others");
        Edges.refusedIn(World.CLASHING, CLASHED, "melt");
        // One ITEM of many: none of the others comes. If two of the three are the same, it is no clash.
        Run run = new Run().does("scene", 0, 0).does("keep", 0).does("start", 1).does("scene", 9, 3)
            .does("choice", 0, 5, 9).does("keep", 1).does("back", 0).does("start", 2).is(CLASHED, "melt")
            .is(2, "count", 5).is(-1, "of", 9, 0).is(0, "of", 0, 5).is(0, "count", 4);
        run.does("start", 1).is(2, "melt").does("start", 0).is(1, "melt").is(1, "count", 5);
        new Run().does("keep", 0).does("keep", 1).does("start", 7).is(0, "melt").is(7, "count", 5);
    }

    private static void p32Clash() {
        Edges.says(32, "The i-th ITEM that is CLASHED so, as things are");
        Run run = new Run();
        for (int s : new int[] {0, 9, 19}) {
            run.does("scene", s, 0).does("choice", s, 0, 0).does("choice", s, 5, 0);
        }
        run.does("keep", 0).is(NOTHING, "clash", 0);
        for (int hand = 1; hand < 3; hand++) {
            for (int s : new int[] {0, 9, 19}) {
                run.does("scene", s, hand).does("line", s, 0, hand, 0).does("line", s, 5, 0, hand);
            }
            run.does("start", hand).does(hand == 1 ? "keep" : "count", 1);
        }
        run.are("clash", new long[0], 0, 1, 6, 63, 64, 69, 133, 134, 139, 140, NONE)
            .does("line", 0, 0, 1, 0).is(6, "clash", 1).is(NONE, "clash", 9).does("start", 0).is(139, "clash", 7)
            .is(NONE, "clash", 8).does("scene", 9, -1).is(63, "clash", 2).is(64, "clash", 3).is(69, "clash", 4)
            .does("keep", 1).is(NONE, "clash", 0).is(0, "melt");
        Edges.says(32, "NOTHING: as of melt()");
        for (int i : new int[] {0, 1, -1, 140, 141, LEAST, MOST}) {
            Edges.refusedIn(World.BLANK, NOTHING, "clash", i);
            for (int which = 0; which < 2; which++) {
                new Run().does("keep", which).is(NOTHING, "clash", i).is(1, "count", 4);
            }
        }
        Edges.says(32, "NONE: there is none such");
        for (int i : new int[] {1, 2, -1, 140, 141, LEAST, MOST}) {
            Edges.refusedIfTold(NONE, "clash", i);
        }
        Edges.refusedIn(World.FULL, NONE, "clash", 0);
        World.CLASHING.made().is(1, "clash", 0);
    }

    private static void p33Count() {
        Edges.says(33, "How many: 0 SCENES that are there, 1 CHOICES, 2 bytes of the tape, 3 numbers that wait, 4 "
            + "findings of the host ever (NOTHING, PLACE, SORT, SIZE), 5 THE START");
        new Run().are("count", new long[0], 0, 0, 0, 0, 0, 0);
        World.FULL.made().are("count", new long[0], 5, 4, 1, 2, 2, 8);
        World.BRIM.made().are("count", new long[0], 5, 4, 100, 30, 2, 8);
        Run run = new Run().does("start", 255);
        for (int s = 0; s < 20; s++) {
            run.does("scene", s, 0);
            for (int k = 0; k < 6; k++) {
                run.does("choice", s, k, 0);
            }
        }
        run.are("count", new long[0], 20, 120, 0, 0, 0, 255).does("scene", 0, -1).does("drop", 19, 5)
            .are("count", new long[0], 19, 113, 0, 0, 0, 255);
        Edges.says(33, "BAD");
        for (int what : new int[] {-1, 6, LEAST, MOST}) {
            Edges.refused(BAD, "count", what);
        }
    }

    /** Each call that answers a finding of the host, and none of the others, adds one to count(4). */
    private static void p33Findings() {
        Edges.says(33, "How many: 0 SCENES that are there, 1 CHOICES, 2 bytes of the tape, 3 numbers that wait, 4 "
            + "findings of the host ever (NOTHING, PLACE, SORT, SIZE), 5 THE START");
        Run run = World.FULL.made();
        long[] many = {2};
        counted(run, many, NOTHING, "loss", 9, 0);
        counted(run, many, SORT, "loss", 0, 0);
        counted(run, many, NOTHING, "choice", 9, 0, 0);
        counted(run, many, NOTHING, "gives", 0, 1, 0, 0);
        counted(run, many, NOTHING, "line", 0, 1, 0, 0);
        counted(run, many, NOTHING, "of", 9, 2);
        counted(run, many, NOTHING, "about", 0, 1, 0);
        counted(run, many, NOTHING, "live", 9);
        counted(run, many, NOTHING, "open", 0, 1);
        counted(run, many, SIZE, "sheet", 0, 0, -1);
        counted(run, many, NOTHING, "write", 3, 0, 0);
        counted(run, many, PLACE, "write", 0, 3, 0);
        counted(run, many, NOTHING, "words", 9, 0, 0, 0);
        counted(run, many, NOTHING, "words", 0, 3, 0, 0);
        counted(run, many, SORT, "words", 0, 0, 1, 0);
        counted(run, many, PLACE, "words", 0, 0, 0, 0);
        run.is(-1010, "write", 2, 0, -1011).is(-1011, "write", 2, 0, -1012).is(-1012, "write", 2, 0, -1013)
            .is(-1013, "write", 2, 0, 0).is(many[0], "count", 4);
        run.is(BAD, "feed", 0, 0).is(BAD, "scene", 20, 0).is(BAD, "loss", 20, 0).is(BAD, "sheet", 0, 0, 31)
            .is(NONE, "way", 9).is(NONE, "trap", 9).is(NONE, "sessions", 2, 1).is(NONE, "clash", 0).is(BAD, "count", 6)
            .text("i").is(WRONG, "scene", 1, 1).does("line", 0, 0, 1, 1).is(CLASHED, "melt").is(many[0], "count", 4)
            .does("keep", 0).does("scene", 0, -1).does("back", 0).is(many[0], "count", 4);
        Run blank = new Run();
        long[] none = {0};
        counted(blank, none, NOTHING, "back", 0);
        counted(blank, none, NOTHING, "back", 1);
        counted(blank, none, NOTHING, "melt");
        counted(blank, none, NOTHING, "clash", 0);
        blank.is(NONE, "play").is(NONE, "at", 0).is(0, "drop", 9, 0).is(-1, "of", 9, 0).is(0, "of", 9, 1)
            .is(0, "reached", 9).is(-1, "scene", 9, -1).is(0, "cut", 9, 1).is(4, "count", 4);
    }

    private static void counted(Run run, long[] many, int finding, String name, long... args) {
        many[0]++;
        run.is(finding, name, args).is(many[0], "count", 4);
    }
}
