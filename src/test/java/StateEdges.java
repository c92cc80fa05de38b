/** The sentences of the promises 12 to 19: what can be come to. */
final class StateEdges implements Findings {
    private static final String ALL = "a&b&c&d&e&f&g&h";

    private StateEdges() {
    }

    static void test() {
        p12States();
        p12Pairs();
        p13Reached();
        p14Live();
        p15Open();
        p16Trap();
        p17Way();
        p18Step();
        p18Refused();
        p19Ways();
    }

    private static void p12States() {
        Edges.says(12, "How many STATES are: what 0 REACHED, 1 of these at ENDINGS (and PRIZES), 2 STUCK, 3 HOPELESS");
        new Run().are("states", new long[0], 0, 0, 0, 0).does("scene", 1, 3).are("states", new long[0], 0, 0, 0, 0)
            .does("scene", 0, 0).are("states", new long[0], 1, 0, 1, 1)
            .does("scene", 0, 3).are("states", new long[0], 1, 1, 0, 0)
            .does("scene", 0, 4).are("states", new long[0], 1, 1, 0, 0)
            .does("cut", 0, 1).are("states", new long[0], 0, 0, 0, 0);
        TermEdges.allStates().are("states", new long[0], 5120, 0, 0, 5120)
            // SCENES 0 to 18 have 3326 then; SCENE 19 is come to with every set.
            .does("scene", 19, 3).are("states", new long[0], 3326 + 256, 256, 0, 0)
            // h is given for the last time at SCENE 15.
            .scene(19, 4, "h").are("states", new long[0], 3326 + 128, 128, 0, 3 * 128)
            .does("drop", 18, 1).does("drop", 18, 5).are("states", new long[0], 3326 + 128, 128, 128, 3 * 128)
            .does("cut", 19, 1).are("states", new long[0], 3326, 0, 256, 3326);
        Edges.says(12, "BAD: another what");
        for (int what : new int[] {-1, 5, LEAST, MOST}) {
            Edges.refused(BAD, "states", what);
        }
    }

    private static void p12Pairs() {
        Edges.says(12, "4: different pairs of a SCENE and LIVE FACTS of REACHED ones (those of its FACTS that are LIVE "
            + "there)");
        new Run().is(0, "states", 4).does("scene", 0, 0).is(1, "states", 4).does("cut", 0, 1).is(0, "states", 4);
        TermEdges.allStates().is(20, "states", 4).choice(7, 3, 7, "c").is(40, "states", 4)
            .choice(7, 3, 7, ALL).is(5120, "states", 4).is(5120, "states", 0)
            // Only up to SCENE 7 something is LIVE then: one pair for each of the others, the ENDING, too.
            .does("scene", 19, 3).is(510 + 11 + 1, "states", 4).is(3326 + 256, "states", 0);
        new Run().does("scene", 0, 0).does("choice", 0, 0, 0).does("gives", 0, 0, 1, 0).choice(0, 1, 1, "a")
            .is(2, "states", 0).is(1, "states", 4).does("scene", 1, 0).is(3, "states", 0).is(3, "states", 4)
            .does("cut", 1, 1).is(2, "states", 0).is(2, "states", 4);
    }

    private static void p13Reached() {
        Edges.says(13, "How many REACHED STATES a SCENE has");
        new Run().is(0, "reached", 0).is(0, "reached", 19).does("scene", 0, 0).is(1, "reached", 0)
            .does("scene", 19, 3).is(0, "reached", 19).does("choice", 0, 0, 19).is(1, "reached", 19)
            .does("choice", 0, 1, 19).is(1, "reached", 19).does("gives", 0, 1, 128, 0).is(2, "reached", 19)
            .does("cut", 19, 1).is(0, "reached", 19).is(1, "reached", 0).does("cut", 19, 0).is(2, "reached", 19)
            .does("cut", 0, 1).is(0, "reached", 19).is(0, "reached", 0).is(0, "count", 4);
        TermEdges.allStates().is(256, "reached", 0).is(256, "reached", 19).is(BAD, "reached", 20);
        Edges.says(13, "BAD: no such SCENE");
        for (int s : NO_SCENES) {
            Edges.refused(BAD, "reached", s);
        }
    }

    private static void p14Live() {
        Edges.says(14, "The FACTS that are LIVE at a SCENE");
        for (int s : new int[] {0, 19}) {
            new Run().does("scene", s, 0).is(0, "live", s).choice(s, 5, s, ALL).is(255, "live", s)
                .choice(s, 5, s, "a").is(1, "live", s).choice(s, 0, s, "h").is(129, "live", s)
                .does("cut", s, 1).is(129, "live", s).does("scene", s, 4).is(0, "live", s)
                .does("scene", s, 2).is(129, "live", s).does("loss", s, 255).is(129, "live", s);
        }
        Edges.says(14, "BAD: no such SCENE");
        for (int s : NO_SCENES) {
            Edges.refused(BAD, "live", s);
        }
        Edges.says(14, "NOTHING: it is not there");
        for (int s : new int[] {5, 9, 19}) {
            Edges.refused(NOTHING, "live", s);
        }
        Edges.refusedIn(World.BLANK, NOTHING, "live", 0);
    }

    private static void p15Open() {
        Edges.says(15, "In how many REACHED STATES a CHOICE is OPEN");
        TermEdges.allStates().is(256, "open", 0, 0).is(256, "open", 19, 5).choice(19, 3, 0, "a&b").is(64, "open", 19, 3)
            .choice(19, 3, 0, ALL).is(1, "open", 19, 3).choice(19, 3, 0, "0").is(0, "open", 19, 3)
            .does("scene", 19, 3).is(0, "open", 19, 5).does("scene", 18, 1).is(256, "open", 17, 0)
            .scene(18, 1, "!b").is(128, "open", 17, 0).does("cut", 18, 1).is(0, "open", 17, 0)
            .is(0, "open", 18, 5).does("cut", 0, 1).is(0, "open", 0, 0).is(0, "count", 4);
        Edges.says(15, "BAD: no such SCENE, CHOICE");
        for (int s : NO_SCENES) {
            Edges.refused(BAD, "open", s, 0);
        }
        for (int k : NO_CHOICES) {
            Edges.refused(BAD, "open", 0, k);
            Edges.refused(BAD, "open", 9, k);
        }
        Edges.says(15, "NOTHING: it is not there");
        for (int[] choice : new int[][] {{0, 1}, {0, 5}, {1, 0}, {3, 3}, {5, 0}, {9, 3}, {19, 5}}) {
            Edges.refused(NOTHING, "open", choice[0], choice[1]);
        }
    }

    /** CHOICE 0 leads on, from SCENE 16 to 19, from there to the ENDING (17); all others lead into the hole (18). */
    private static Run manyTraps() {
        Run run = new Run();
        for (int s = 0; s < 20; s++) {
            run.does("scene", s, s == 17 ? 3 : 0);
            for (int k = 0; k < 6 && s != 17 && s != 18; k++) {
                run.does("choice", s, k, k > 0 ? 18 : s == 16 ? 19 : s == 19 ? 17 : s + 1);
            }
        }
        return run;
    }

    private static void p16Trap() {
        Edges.says(16, "The i-th TRAP, by SCENES, then by CHOICES: 10 times the SCENE, and the CHOICE");
        Run run = manyTraps();
        int i = 0;
        for (int s = 0; s < 20; s++) {
            for (int k = 1; k < 6 && s != 17 && s != 18; k++) {
                run.is(10 * s + k, "trap", i);
                i++;
            }
        }
        run.is(195, "trap", 89).is(NONE, "trap", 90).is(NONE, "trap", -1)
            .does("choice", 0, 1, 1).does("choice", 0, 0, 18).is(0, "trap", 0).is(2, "trap", 1).is(NONE, "trap", 90)
            .does("cut", 17, 1).is(NONE, "trap", 0).does("cut", 17, 0).does("cut", 18, 1).is(NONE, "trap", 0);
        // h can be got for the last time at SCENE 15, and the PRIZE needs it.
        TermEdges.allStates().scene(19, 4, "h").is(150, "trap", 0).is(NONE, "trap", 1);
        Edges.says(16, "NONE: there is none such");
        for (int none : new int[] {-1, 1, 2, 119, 120, LEAST, MOST}) {
            Edges.refused(NONE, "trap", none);
        }
        Edges.refusedIn(World.BLANK, NONE, "trap", 0);
        Edges.refusedIn(World.NO_BEGINNING, NONE, "trap", 0);
    }

    private static void p17Way() {
        Edges.says(17, "The fewest CHOICES from THE BEGINNING to a STATE of a SCENE");
        Run chain = TermEdges.chain(3);
        for (int s = 0; s < 20; s++) {
            chain.is(s, "way", s);
        }
        chain.does("choice", 3, 0, 18).is(4, "way", 18).is(5, "way", 19).is(17, "way", 17).does("choice", 0, 0, 0)
            .does("choice", 18, 0, 0).is(0, "way", 0);
        // As few CHOICES as there are, not as few SCENES: each FACT costs one more.
        allFactsOnTheWay().is(18, "way", 18).is(27, "way", 19).does("start", 255).is(19, "way", 19)
            .does("start", 127).is(20, "way", 19);
        // Seven times round for seven FACTS.
        sevenRounds().is(2, "way", 18).does("cut", 19, 1).is(NONE, "way", 18).does("start", 128)
            .is(7 * 18 + 1, "way", 18);
        Edges.says(17, "BAD: no such SCENE");
        for (int s : NO_SCENES) {
            Edges.refused(BAD, "way", s);
        }
        Edges.says(17, "NONE: none is REACHED");
        for (int s : new int[] {4, 5, 9, 19}) {
            Edges.refused(NONE, "way", s);
        }
        for (int s = 0; s < 5; s++) {
            Edges.refusedIn(World.BLANK, NONE, "way", s);
            Edges.refusedIn(World.NO_BEGINNING, NONE, "way", s);
        }
    }

    /** SCENES 0 to 7 give a FACT each, by CHOICE 1; SCENE 19 needs them all. */
    private static Run allFactsOnTheWay() {
        Run run = TermEdges.chain(1).scene(19, 1, ALL);
        for (int s = 0; s < 8; s++) {
            run.does("choice", s, 1, s).does("gives", s, 1, 1 << s, 0);
        }
        return run;
    }

    /**
     * SCENES 0 to 17 are a ring; each time round one of the FACTS a to g can be got, the next one at the SCENE ahead.
     * From 0 one comes to 18 with all eight FACTS, or by 19.
     */
    static Run sevenRounds() {
        Run run = new Run().does("scene", 18, 0).does("scene", 19, 0);
        for (int s = 0; s < 18; s++) {
            run.does("scene", s, 0).does("choice", s, 0, (s + 1) % 18);
        }
        for (int s = 7; s > 0; s--) {
            run.choice(s, 1, s + 1, ALL.substring(0, Math.max(0, 2 * (7 - s) - 1)))
                .does("gives", s, 1, 1 << 7 - s, 0);
        }
        return run.choice(0, 1, 18, ALL).does("choice", 0, 2, 19).does("choice", 19, 0, 18);
    }

    private static void p18Step() {
        Edges.says(18, "The i-th CHOICE of that way, from 0 on: of the ways with as few the one with the lesser CHOICE "
            + "where two first differ");
        Run run = allFactsOnTheWay();
        for (int i = 0; i < 27; i++) {
            run.is(i < 16 && i % 2 == 0 ? 1 : 5, "step", 19, i);
        }
        run = sevenRounds().does("cut", 19, 1).does("start", 128);
        for (int i = 0; i < 126; i++) {
            run.is(i % 18 == 7 - i / 18 ? 1 : 0, "step", 18, i);
        }
        run.is(1, "step", 18, 126).is(-1, "step", 18, 127);
        // Two ways of two: 1 5 by SCENE 2, and 2 0 by SCENE 1; that they come with other FACTS is nothing to them.
        for (int facts : new int[] {0, 255}) {
            new Run().does("scene", 0, 0).does("scene", 1, 0).does("scene", 2, 0).does("scene", 19, 0)
                .does("choice", 0, 2, 1).does("choice", 0, 1, 2).does("choice", 1, 0, 19).does("choice", 2, 5, 19)
                .does("gives", 2, 5, facts, 0).is(2, "way", 19).are("step", new long[] {19}, 1, 5, -1)
                // The same first CHOICE, a lesser second one; then a lesser first one; then a way of one.
                .does("choice", 2, 4, 19).does("gives", 2, 4, 255, 0).are("step", new long[] {19}, 1, 4, -1)
                .does("choice", 0, 0, 1).are("step", new long[] {19}, 0, 0, -1)
                .does("choice", 0, 5, 19).is(1, "way", 19).are("step", new long[] {19}, 5, -1);
        }
        // To the same STATE by 0 5 0 and by 5 0 0: where they first differ, 0 is the lesser.
        new Run().does("scene", 0, 0).does("scene", 1, 0).does("scene", 2, 0).does("scene", 3, 0).does("scene", 4, 3)
            .does("choice", 0, 5, 1).does("choice", 0, 0, 2).does("choice", 1, 0, 3).does("choice", 2, 5, 3)
            .does("choice", 3, 0, 4).are("step", new long[] {4}, 0, 5, 0, -1);
        Edges.says(18, "-1 behind the last one");
        allFactsOnTheWay().is(5, "step", 19, 26).is(-1, "step", 19, 27).is(-1, "step", 19, 28).is(-1, "step", 19, MOST)
            .is(-1, "step", 0, 0).is(-1, "step", 0, MOST).is(5, "step", 1, 0).is(-1, "step", 1, 1);
    }

    private static void p18Refused() {
        Edges.says(18, "BAD: no such SCENE, or i is below 0");
        for (int s : NO_SCENES) {
            Edges.refused(BAD, "step", s, 0);
            Edges.refused(BAD, "step", s, -1);
        }
        for (int i : new int[] {-1, LEAST}) {
            for (int s : new int[] {0, 1, 4, 9}) {
                Edges.refused(BAD, "step", s, i);
            }
        }
        Edges.says(18, "NONE");
        for (int i : new int[] {0, 1, MOST}) {
            for (int s : new int[] {4, 5, 9, 19}) {
                Edges.refused(NONE, "step", s, i);
            }
            Edges.refusedIn(World.BLANK, NONE, "step", 0, i);
            Edges.refusedIn(World.NO_BEGINNING, NONE, "step", 0, i);
        }
    }

    private static void p19Ways() {
        Edges.says(19, "How many rows of n OPEN CHOICES lead from THE BEGINNING to a STATE of an ENDING (or PRIZE)");
        for (int kind = 0; kind < 5; kind++) {
            new Run().does("scene", 0, kind).does("choice", 0, 0, 0).is(kind < 3 ? 0 : 1, "ways", 0).is(0, "ways", 1)
                .is(0, "ways", 20).does("cut", 0, 1).is(0, "ways", 0);
        }
        // Six CHOICES lead on from each SCENE: a number that needs a long.
        Run chain = TermEdges.chain(3);
        for (int s = 0; s < 19; s++) {
            for (int k = 0; k < 5; k++) {
                chain.does("choice", s, k, s + 1);
            }
        }
        chain.is(0, "ways", 18).is(609359740010496L, "ways", 19).is(0, "ways", 20).does("cut", 1, 1).is(0, "ways", 19);
        Run round = new Run().does("scene", 0, 0).does("scene", 1, 4);
        for (int k = 0; k < 6; k++) {
            round.does("choice", 0, k, k == 5 ? 1 : 0);
        }
        round.is(0, "ways", 0);
        long want = 1;
        for (int n = 1; n <= 20; n++) {
            round.is(want, "ways", n);
            want *= 5;
        }
        // Two CHOICES to the same STATE are two rows; those that do not come to the NEED of the PRIZE are none.
        round.does("choice", 0, 4, 1).is(2, "ways", 1).is(2 * 4, "ways", 2).scene(1, 4, "h").is(0, "ways", 1)
            .is(0, "ways", 20).does("gives", 0, 0, 128, 0).is(0, "ways", 1).is(2, "ways", 2).is(2 * 7, "ways", 3);
        Edges.says(19, "BAD: n is not 0 .. 20");
        for (int n : new int[] {-1, 21, LEAST, MOST}) {
            Edges.refused(BAD, "ways", n);
        }
    }
}
