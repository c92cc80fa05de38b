/** The sentences under 'Terms', but for those of TEXTS. */
final class TermEdges implements Findings {
    private TermEdges() {
    }

    static void test() {
        findings();
        nothingChanges();
        order();
        scenes();
        kinds();
        choices();
        states();
        beginning();
        open();
        leads();
        reached();
        stuckAndHopeless();
        traps();
        live();
        sheets();
        items();
        sameNeeds();
    }

    private static void findings() {
        Edges.says(TERMS, "ANSWERS below -1000 are findings: -1002 BAD, -1003 NONE, -1004 CLASHED, -1010 NOTHING, "
            + "-1011 PLACE, -1012 SORT, -1013 SIZE, and -1100 WRONG (and less)");
        new Run().is(-1002, "keep", 2).is(-1003, "way", 0).is(-1010, "back", 0)
            .does("sheet", 0, 0, 1).is(-1011, "write", 0, 1, 0)
            .does("scene", 0, 0).is(-1012, "words", 0, 0, 1, 0).is(-1013, "sheet", 0, 0, -1)
            .text("i").is(-1100, "scene", 1, 1).text("ai").is(-1101, "choice", 0, 0, 0)
            .text("a|".repeat(30)).is(-1160, "scene", 1, 1)
            .does("keep", 0).does("start", 1).does("keep", 1).does("start", 2).is(-1004, "melt");
    }

    /** One call after the other is refused; all that they leave behind is an empty tape, and that nothing waits. */
    private static void nothingChanges() {
        Edges.says(TERMS, "A call that answers one changes nothing, but where told");
        for (Look look : Look.values()) {
            World world = World.NO_BEGINNING;
            Run run = world.made();
            long host = run.call("count", 4);
            run.is(BAD, "feed", 97, 9).is(BAD, "loss", 2, 256).is(NOTHING, "loss", 9, 1).is(SORT, "loss", 1, 1)
                .is(BAD, "gives", 0, 0, 1, 1).is(NOTHING, "gives", 0, 1, 1, 0)
                .is(BAD, "line", 0, 0, 100, 0).is(NOTHING, "line", 0, 1, 1, 0).is(BAD, "drop", 0, 6)
                .is(BAD, "start", 256).is(BAD, "of", 0, 6).is(NOTHING, "of", 9, 5)
                .is(BAD, "about", 0, 0, 7).is(NOTHING, "about", 0, 1, 0)
                .is(BAD, "states", 5).is(BAD, "reached", 20).is(BAD, "live", 20).is(NOTHING, "live", 9)
                .is(BAD, "open", 0, 6).is(NOTHING, "open", 0, 1).is(NONE, "trap", 0)
                .is(BAD, "way", 20).is(NONE, "way", 0).is(BAD, "step", 0, -1).is(NONE, "step", 0, 0)
                .is(BAD, "ways", 21).is(BAD, "cut", 20, 1).is(NONE, "mend")
                .is(BAD, "sheet", 0, 0, 31).is(SIZE, "sheet", 0, 0, -1)
                .is(BAD, "write", 4, 0, 1).is(NOTHING, "write", 3, 0, 1).is(PLACE, "write", 0, 3, 1)
                .is(BAD, "words", 0, 0, 3, 0).is(NOTHING, "words", 9, 0, 0, 0).is(SORT, "words", 0, 0, 1, 0)
                .is(PLACE, "words", 0, 0, 0, 0).is(BAD, "sessions", 2, 0).is(NONE, "sessions", 2, 40)
                .is(BAD, "at", 2).is(BAD, "keep", 2).is(BAD, "back", 2).is(NONE, "clash", 0).is(BAD, "count", 6)
                .is(host + 14, "count", 4).is(1, "count", 2).is(2, "count", 3)
                .is(BAD, "scene", 20, 0).text("d&").is(WRONG - 2, "scene", 2, 2).is(BAD, "choice", 0, 0, 20)
                .is(NOTHING, "choice", 9, 0, 0).text("i").is(WRONG, "choice", 0, 0, 0).is(NONE, "play")
                .is(host + 15, "count", 4).is(0, "count", 2).is(0, "count", 3);
            world.tell(run);
            Check.due(Edges.place() + look, look.at(run.text(world.tape)), world.untouched(look));
        }
    }

    /** Calls that are wrong in several ways. */
    private static void order() {
        Edges.says(TERMS, "what is wrong is asked in the order in which it is told");
        World full = World.FULL;
        Edges.refusedIn(full, BAD, "loss", 20, 256);
        Edges.refusedIn(full, BAD, "loss", 9, 256);
        Edges.refusedIn(full, BAD, "loss", 0, 256);
        Edges.refusedIn(full, BAD, "choice", 9, 6, 0);
        Edges.refusedIn(full, BAD, "choice", 9, 0, 20);
        Edges.refusedIn(full, BAD, "gives", 9, 0, 1, 1);
        Edges.refusedIn(full, BAD, "gives", 0, 1, 256, 0);
        Edges.refusedIn(full, BAD, "gives", 9, 0, 0, 256);
        Edges.refusedIn(full, BAD, "line", 9, 0, 100, 0);
        Edges.refusedIn(full, BAD, "line", 0, 1, 0, 4);
        Edges.refusedIn(full, BAD, "of", 9, 6);
        Edges.refusedIn(full, BAD, "about", 9, 0, 7);
        Edges.refusedIn(full, BAD, "about", 0, 1, -1);
        Edges.refusedIn(full, BAD, "open", 9, 6);
        Edges.refusedIn(full, BAD, "step", 4, -1);
        Edges.refusedIn(full, BAD, "step", 9, -1);
        Edges.refusedIn(full, BAD, "sheet", 4, 0, -1);
        Edges.refusedIn(full, BAD, "sheet", 0, 3, -1);
        Edges.refusedIn(full, BAD, "write", 4, -1, 0);
        Edges.refusedIn(full, BAD, "words", 9, 4, 0, 0);
        Edges.refusedIn(full, BAD, "words", 9, 3, 3, -1);
        Edges.refusedIn(full, BAD, "words", 20, 3, 1, -1);
        Edges.refusedIn(full, BAD, "sessions", 2, 0);
        Edges.refusedIn(full, BAD, "sessions", 4, 40);
        Edges.refusedIn(World.BRIM, BAD, "scene", 20, 1);
        Edges.refusedIn(World.BRIM, BAD, "scene", 0, 5);
        Edges.refusedIn(World.BRIM, BAD, "choice", 0, 6, 0);
        Edges.refusedIn(World.BRIM, NOTHING, "choice", 9, 0, 0);
        Edges.refusedIn(full, NOTHING, "write", 3, -1, 0);
        Edges.refusedIn(full, NOTHING, "words", 9, 0, 1, -1);
        Edges.refusedIn(full, NOTHING, "words", 0, 3, 1, -1);
        Edges.refusedIn(full, SORT, "words", 0, 0, 1, -1);
        Edges.refusedIn(World.BLANK, NONE, "at", 2);
        Edges.refusedIn(World.BLANK, BAD, "back", 2);
        Edges.refusedIn(World.BLANK, NOTHING, "clash", -1);
    }

    private static void scenes() {
        Edges.says(TERMS, "SCENES are 0 to 19 (none is there at first)");
        Run run = new Run().is(0, "count", 0);
        for (int s = 0; s < 20; s++) {
            run.is(-1, "of", s, 0);
        }
        run.is(BAD, "scene", 20, 0).is(BAD, "scene", -1, 0);
        for (int s = 19; s >= 0; s--) {
            run.is(-1, "scene", s, 0).is(20 - s, "count", 0);
        }
        run.is(BAD, "of", 20, 0).is(BAD, "of", -1, 0).is(0, "scene", 19, -1).is(0, "scene", 0, -1).is(18, "count", 0);
    }

    private static void kinds() {
        Edges.says(TERMS, "KINDS: 0 SCENE");
        kind(0, 0, 256, 1, 0, 0);
        Edges.says(TERMS, "1 GATE under SCENE: it has a NEED");
        kind(1, 1, 128, 1, 0, 0);
        Edges.says(TERMS, "2 LOSS under GATE: it has a SET, too");
        kind(2, 1, 128, 1, 0, 3);
        Edges.says(TERMS, "3 ENDING under SCENE");
        kind(3, 0, 256, 0, 1, 0);
        Edges.says(TERMS, "4 PRIZE under ENDING: it has a NEED");
        kind(4, 1, 128, 0, 1, 0);
    }

    /** SCENE 1 of a KIND, with 'a' on the tape: its NEED, whether one goes on from it, or it ends, what it takes. */
    private static void kind(int kind, int reads, int holds, int goesOn, int ends, int loses) {
        new Run().does("scene", 0, 0).scene(1, kind, "a").does("choice", 0, 0, 1).does("choice", 1, 0, 0)
            .is(kind, "of", 1, 0).is(reads, "of", 1, 2).is(holds, "of", 1, 3).is(0, "of", 1, 4)
            .is(kind == 2 ? 0 : SORT, "loss", 1, 3).is(loses, "of", 1, 4)
            .is(reads == 0 ? 1 : 0, "open", 0, 0).does("start", 7)
            .is(1, "open", 0, 0).is(goesOn, "open", 1, 0).is(ends, "states", 1)
            .does("tell", 0).is(1, "play").is(1, "at", 0).is(7 - loses, "at", 1);
    }

    private static void choices() {
        Edges.says(TERMS, "Each SCENE can have CHOICES 0 to 5: TO (a SCENE, there or not), a NEED, GIVES and TAKES "
            + "(sets), WORDS (0 to 99), a VOICE (0 to 3)");
        Run run = new Run();
        for (int s = 0; s < 20; s++) {
            run.does("scene", s, s % 5);
            for (int k = 0; k < 6; k++) {
                run.is(0, "choice", s, k, 19 - s);
            }
            run.is(63, "of", s, 5).is(BAD, "choice", s, 6, 0).is(BAD, "choice", s, -1, 0);
        }
        run.is(120, "count", 1).does("gives", 19, 5, 255, 0).does("line", 19, 5, 99, 3)
            .does("gives", 19, 4, 0, 255).does("line", 19, 4, 0, 0)
            .are("about", new long[] {19, 5}, 0, 0, 256, 255, 0, 99, 3)
            .are("about", new long[] {19, 4}, 0, 0, 256, 0, 255, 0, 0)
            .are("about", new long[] {19, 3}, 0, 0, 256, 0, 0, 0, 0);
        new Run().does("scene", 0, 0).text("!h").is(0, "choice", 0, 5, 19)
            .are("about", new long[] {0, 5}, 19, 128, 128, 0, 0, 0, 0).is(0, "open", 0, 5)
            .does("scene", 19, 0).is(1, "open", 0, 5);
    }

    /** Every SCENE with every set of FACTS: a ring in which each SCENE can give a FACT, and take it. */
    static Run allStates() {
        Run run = new Run();
        for (int s = 0; s < 20; s++) {
            run.does("scene", s, 0).does("choice", s, 0, (s + 1) % 20)
                .does("choice", s, 1, s).does("gives", s, 1, 1 << s % 8, 0)
                .does("choice", s, 5, s).does("gives", s, 5, 0, 1 << s % 8);
        }
        return run;
    }

    private static void states() {
        Edges.says(TERMS, "A STATE is a SCENE that is there, and a set of FACTS");
        Run run = allStates().is(5120, "states", 0);
        for (int s = 0; s < 20; s++) {
            run.is(256, "reached", s);
        }
        // Every call that goes through all of them.
        run.is(5120, "states", 3).is(20, "states", 4).is(256, "open", 19, 5).is(NONE, "trap", 0).is(19, "way", 19)
            .is(0, "step", 19, 18).is(0, "ways", 20).is(0, "mend");
        // The ring is open then: SCENE s has only sets of the FACTS that the SCENES up to it give.
        run.does("scene", 19, -1).is(0, "reached", 19).is(2, "reached", 0).is(4, "reached", 1).is(128, "reached", 6)
            .is(256, "reached", 7).is(256, "reached", 18).is(510 + 11 * 256, "states", 0);
    }

    private static void beginning() {
        Edges.says(TERMS, "THE BEGINNING is SCENE 0 with THE START (a set, empty at first)");
        new Run().does("scene", 0, 0).is(0, "count", 5).is(0, "play").is(0, "at", 0).is(0, "at", 1)
            .does("start", 255).is(0, "play").is(0, "at", 0).is(255, "at", 1).is(1, "states", 0).is(0, "way", 0);
        for (int kind = 0; kind < 5; kind++) {
            // It asks no NEED, and loses nothing.
            new Run().does("start", 9).scene(0, kind, "0").does("loss", 0, 255).is(1, "states", 0).is(0, "play")
                .is(9, "at", 1).is(1, "reached", 0);
        }
        Edges.says(TERMS, "there is none if SCENE 0 is not there, or CUT");
        Run run = new Run().does("scene", 1, 3);
        none(run);
        run.does("scene", 0, 0).does("choice", 0, 0, 1).is(0, "play").does("cut", 0, 1);
        none(run);
        run.does("cut", 0, 0).is(0, "play").is(2, "states", 0).does("scene", 0, -1);
        none(run);
    }

    private static void none(Run run) {
        run.is(NONE, "play").is(0, "states", 0).is(0, "states", 3).is(0, "states", 4).is(0, "reached", 0)
            .is(NONE, "way", 0).is(NONE, "step", 0, 0).is(NONE, "way", 1).is(0, "ways", 0).is(0, "ways", 1)
            .is(NONE, "trap", 0);
    }

    private static void open() {
        Edges.says(TERMS, "A CHOICE is OPEN in a STATE of its SCENE if that is no ENDING (nor PRIZE), its NEED holds, "
            + "TO is there and not CUT, and (if TO has a NEED) that holds for the FACTS behind the CHOICE: those of "
            + "the STATE less what it TAKES, and what it GIVES");
        for (int kind = 0; kind < 5; kind++) {
            new Run().does("scene", 0, kind).does("choice", 0, 0, 0).is(kind < 3 ? 1 : 0, "open", 0, 0);
        }
        // Its own NEED is asked ahead of what it GIVES and TAKES.
        new Run().does("scene", 0, 0).choice(0, 0, 0, "a").does("gives", 0, 0, 1, 0).is(0, "open", 0, 0)
            .choice(0, 0, 0, "!a").does("gives", 0, 0, 1, 0).is(1, "open", 0, 0)
            .does("start", 1).choice(0, 0, 0, "a").does("gives", 0, 0, 0, 1).is(1, "open", 0, 0)
            .choice(0, 0, 0, "!a").does("gives", 0, 0, 0, 1).is(0, "open", 0, 0);
        new Run().does("scene", 0, 0).does("choice", 0, 0, 19).is(0, "open", 0, 0).does("scene", 19, 0)
            .is(1, "open", 0, 0).does("cut", 19, 1).is(0, "open", 0, 0).does("cut", 19, 0).is(1, "open", 0, 0)
            .does("scene", 19, -1).is(0, "open", 0, 0);
        for (int kind : new int[] {1, 2, 4}) {
            // The NEED of TO is asked behind them, but ahead of the SET.
            new Run().does("scene", 0, 0).does("choice", 0, 0, 1).scene(1, kind, "a").does("loss", 1, 255)
                .is(0, "open", 0, 0).does("gives", 0, 0, 1, 0).is(1, "open", 0, 0)
                .does("start", 1).does("gives", 0, 0, 0, 1).is(0, "open", 0, 0)
                .does("gives", 0, 0, 0, 2).is(1, "open", 0, 0)
                .scene(1, kind, "!a").is(0, "open", 0, 0).does("gives", 0, 0, 2, 1).is(1, "open", 0, 0)
                .does("start", 0).does("gives", 0, 0, 1, 0).is(0, "open", 0, 0)
                .scene(1, kind, "0").is(0, "open", 0, 0);
        }
        for (int kind : new int[] {0, 3}) {
            new Run().does("scene", 0, 0).does("choice", 0, 0, 1).scene(1, kind, "0").is(1, "open", 0, 0);
        }
    }

    private static void leads() {
        Edges.says(TERMS, "It leads to TO with these (if TO is a LOSS: less its SET)");
        for (int kind = 0; kind < 5; kind++) {
            new Run().does("start", 0b11001010).does("scene", 0, 0).does("scene", 1, kind).does("loss", 1, 0b10000011)
                .does("choice", 0, 0, 1).does("gives", 0, 0, 0b00000101, 0b01000000)
                .does("tell", 0).is(1, "play").is(1, "at", 0).is(kind == 2 ? 0b00001100 : 0b10001111, "at", 1);
        }
        // A LOSS takes where one comes to it, not where one leaves it, and from what the CHOICE GIVES, too.
        new Run().does("scene", 0, 2).does("loss", 0, 255).does("start", 1).does("scene", 1, 0)
            .does("choice", 0, 0, 1).does("gives", 0, 0, 4, 0).does("choice", 1, 0, 0).does("gives", 1, 0, 255, 0)
            .does("tell", 0).is(1, "play").is(5, "at", 1)
            .does("tell", 0).does("tell", 0).is(2, "play").is(0, "at", 0).is(0, "at", 1)
            .is(2, "reached", 0).is(2, "reached", 1);
    }

    /** SCENES 0 to 19, from each of which CHOICE 5 leads to the next one; the last is of a KIND. */
    static Run chain(int lastKind) {
        Run run = new Run();
        for (int s = 0; s < 20; s++) {
            run.does("scene", s, s == 19 ? lastKind : 0).does("choice", s, 5, Math.min(s + 1, 19));
        }
        return run;
    }

    private static void reached() {
        Edges.says(TERMS, "REACHED are THE BEGINNING and what OPEN CHOICES lead to from REACHED ones");
        chain(3).is(20, "states", 0).is(1, "reached", 0).is(1, "reached", 19).does("cut", 10, 1)
            .is(10, "states", 0).is(1, "reached", 9).is(0, "reached", 10).is(0, "reached", 11);
        new Run().does("scene", 5, 0).does("choice", 5, 0, 6).does("scene", 6, 0).is(0, "states", 0)
            .does("scene", 0, 0).is(1, "states", 0).is(0, "reached", 5).is(0, "reached", 6)
            .does("choice", 0, 0, 6).is(2, "states", 0).is(0, "reached", 5).is(1, "reached", 6)
            .choice(0, 0, 6, "a").is(1, "states", 0).does("start", 1).is(2, "states", 0);
        noLongerReached();
    }

    /** What was REACHED and full of hope before a change is neither behind it. */
    private static void noLongerReached() {
        new Run().does("scene", 0, 0).does("scene", 1, 0).does("scene", 2, 3).does("choice", 0, 0, 1)
            .does("gives", 0, 0, 0, 1).does("choice", 0, 1, 2).does("choice", 1, 0, 0).is(3, "states", 0)
            .is(0, "states", 3).is(NONE, "trap", 0).does("start", 1).is(5, "states", 0).is(0, "states", 3)
            .does("drop", 1, 0).is(3, "states", 0).is(1, "states", 3).is(0, "trap", 0).is(1, "states", 2)
            .does("start", 0).is(3, "states", 0).is(1, "states", 3).is(0, "trap", 0).is(1, "reached", 1)
            .does("cut", 2, 1).is(2, "states", 0).is(2, "states", 3).is(NONE, "trap", 0);
    }

    private static void stuckAndHopeless() {
        Edges.says(TERMS, "STUCK are REACHED ones of no ENDING (nor PRIZE) in which no CHOICE is OPEN");
        for (int kind = 0; kind < 5; kind++) {
            new Run().does("scene", 0, kind).does("scene", 1, 0).is(kind < 3 ? 1 : 0, "states", 2)
                .choice(0, 5, 0, "a").is(kind < 3 ? 1 : 0, "states", 2).does("start", 1).is(0, "states", 2);
        }
        // SCENE 1 with a is STUCK, without it is not.
        Run fork = new Run().does("scene", 0, 0).does("scene", 1, 0).does("scene", 2, 3)
            .does("choice", 0, 0, 1).does("gives", 0, 0, 1, 0).does("choice", 0, 1, 1).choice(1, 0, 2, "!a")
            .is(4, "states", 0).is(1, "states", 2);
        Edges.says(TERMS, "HOPELESS are REACHED ones from which OPEN CHOICES, one behind the other or none, lead to no "
            + "ENDING (or PRIZE)");
        fork.is(1, "states", 3);
        for (int kind = 0; kind < 5; kind++) {
            new Run().does("scene", 0, kind).does("choice", 0, 0, 0).is(kind < 3 ? 1 : 0, "states", 3);
            chain(kind).is(kind < 3 ? 20 : 0, "states", 3).is(0, "states", 2).does("cut", 19, 1).is(19, "states", 3)
                .is(1, "states", 2).does("cut", 0, 1).is(0, "states", 3);
        }
        chain(3).scene(19, 4, "h").is(19, "states", 3).is(0, "states", 1).does("start", 128).is(0, "states", 3)
            .is(1, "states", 1);
        // All STATES that there can be, and hope in each of them.
        allStates().does("scene", 19, 3).does("choice", 18, 2, 0).is(5120, "states", 0).is(256, "states", 1)
            .is(0, "states", 2).is(0, "states", 3).is(NONE, "trap", 0);
        manyWaysToOne().is(19 * 256 + 1, "states", 0).is(1, "states", 1).is(0, "states", 3).is(NONE, "trap", 0)
            // SCENE 18 gives nothing then, and has hope only with h.
            .scene(19, 4, "h").does("choice", 18, 0, 19).does("drop", 18, 1).does("drop", 18, 2).does("drop", 18, 3)
            .does("drop", 18, 4).does("drop", 18, 5).is(128, "states", 3).is(128, "states", 2).is(42, "trap", 0)
            .is(NONE, "trap", 1);
    }

    /** From each of 256 STATES of each of the SCENES 5 to 18 six CHOICES, and no others, lead to one ENDING's STATE. */
    private static Run manyWaysToOne() {
        Run run = new Run().does("scene", 19, 3);
        for (int s = 0; s < 5; s++) {
            run.does("scene", s, 0).does("choice", s, 0, (s + 1) % 5);
            for (int k = 1; k < 3 && s < 4; k++) {
                run.does("choice", s, k, s).does("gives", s, k, 1 << 2 * s + k - 1, 0);
            }
        }
        for (int s = 5; s < 19; s++) {
            run.does("scene", s, 0).does("choice", s < 17 ? (s - 5) / 3 : 4, s < 17 ? 3 + (s - 5) % 3 : s - 16, s);
            for (int k = 0; k < 6; k++) {
                run.does("choice", s, k, 19).does("gives", s, k, 255, 0);
            }
        }
        return run;
    }

    private static void traps() {
        Edges.says(TERMS, "A TRAP is a CHOICE that leads from some REACHED STATE that is not HOPELESS to a HOPELESS "
            + "one");
        Run run = new Run();
        for (int s = 0; s < 5; s++) {
            run.does("scene", s, s == 1 ? 3 : 0);
        }
        // Into a hole, from the hole into another one, from a SCENE that is not REACHED into the hole.
        run.does("choice", 0, 0, 1).does("choice", 0, 1, 2).does("choice", 2, 0, 3)
            .does("choice", 4, 0, 1).does("choice", 4, 1, 2).is(1, "trap", 0).is(NONE, "trap", 1)
            .does("choice", 0, 5, 4).is(1, "trap", 0).is(41, "trap", 1).is(NONE, "trap", 2)
            .does("cut", 2, 1).is(NONE, "trap", 0);
        // SCENE 1 is come to with a and with b; its CHOICE 0 is past hope with a alone.
        new Run().does("scene", 0, 0).does("scene", 1, 0).does("scene", 2, 0).does("scene", 3, 4)
            .does("choice", 0, 0, 1).does("gives", 0, 0, 1, 0).does("choice", 0, 1, 1).does("gives", 0, 1, 2, 0)
            .does("choice", 1, 0, 2).does("choice", 1, 1, 3).choice(2, 0, 3, "b")
            .is(10, "trap", 0).is(NONE, "trap", 1);
    }

    private static void live() {
        Edges.says(TERMS, "LIVE are FACTS at a SCENE that is there: those that the NEED of a CHOICE of it READS, if "
            + "its TO is there");
        new Run().does("scene", 0, 0).choice(0, 0, 1, "a&h").is(0, "live", 0).is(NOTHING, "live", 1)
            .does("scene", 1, 0).is(129, "live", 0).is(0, "live", 1).choice(0, 5, 1, "c&(d|!d)").is(133, "live", 0)
            .does("scene", 1, -1).is(0, "live", 0);
        Edges.says(TERMS, "and of each such CHOICE those that the NEED of TO READS, and those that are LIVE at TO (if "
            + "that is a LOSS: less its SET), less what the CHOICE GIVES or TAKES");
        for (int kind : new int[] {1, 2, 4}) {
            new Run().does("scene", 0, 0).choice(0, 0, 1, "a").scene(1, kind, "b&c").does("loss", 1, 255)
                .is(7, "live", 0).does("gives", 0, 0, 1, 2).is(5, "live", 0).does("gives", 0, 0, 6, 1).is(1, "live", 0);
        }
        new Run().does("scene", 0, 0).does("choice", 0, 0, 1).does("scene", 1, 0).choice(1, 0, 2, "c&d&e&f")
            .does("scene", 2, 0).is(60, "live", 0).does("gives", 0, 0, 4, 0).is(56, "live", 0)
            .does("gives", 0, 0, 4, 8).is(48, "live", 0).does("scene", 1, 2).is(48, "live", 0)
            .does("loss", 1, 16).is(32, "live", 0).is(60, "live", 1).does("loss", 1, 255).is(0, "live", 0)
            .does("choice", 0, 5, 2).does("choice", 0, 4, 1).is(0, "live", 0).does("loss", 1, 251).is(4, "live", 0);
        Edges.says(TERMS, "None at an ENDING (or PRIZE)");
        for (int kind = 0; kind < 5; kind++) {
            new Run().does("scene", 0, 0).does("scene", 1, kind).choice(1, 0, 0, "h").does("choice", 0, 0, 1)
                .is(kind < 3 ? 128 : 0, "live", 1).is(kind < 3 ? 128 : 0, "live", 0);
        }
        Edges.says(TERMS, "(These are the least such sets; what is CUT counts as there.)");
        Run ring = allStates();
        for (int s = 0; s < 20; s++) {
            ring.is(0, "live", s).choice(7, 3, 7, "c").is(4, "live", s).does("drop", 7, 3).is(0, "live", s);
        }
        // What is read at SCENE 0 alone is LIVE all round, beside what each SCENE reads for itself.
        Run both = new Run();
        for (int s = 0; s < 20; s++) {
            both.does("scene", s, 0).choice(s, 0, (s + 1) % 20, "a");
        }
        both.choice(0, 1, 0, "h");
        for (int s = 0; s < 20; s++) {
            both.is(129, "live", s);
        }
        // And against the order of the SCENES.
        Run down = new Run();
        for (int s = 0; s < 20; s++) {
            down.does("scene", s, 0).does("choice", s, 0, Math.max(s - 1, 0));
        }
        down.choice(0, 1, 0, "h").is(128, "live", 19).is(128, "live", 10).is(128, "live", 0);
        Run chain = chain(0).choice(19, 5, 18, "h");
        for (int s = 0; s < 20; s++) {
            chain.is(128, "live", s).does("cut", s, 1).is(128, "live", s);
        }
        chain.is(128, "live", 0).does("drop", 19, 5).is(0, "live", 0);
    }

    private static void sheets() {
        Edges.says(TERMS, "SHEETS 0 to 3 are rows of bytes (SORT 0), shorts (1) or ints (2), or MISSING (at first)");
        int[][] last = {{127, -128, 0}, {32767, -32768, 0}, {MOST, LEAST, 1}};
        for (int s = 0; s < 4; s++) {
            Run run = new Run().is(NOTHING, "write", s, 0, 0);
            for (int sort = 0; sort < 3; sort++) {
                int most = last[sort][0];
                run.is(1, "sheet", s, sort, 1).is(0, "write", s, 0, most).is(most, "write", s, 0, most + 1)
                    .is(last[sort][1], "write", s, 0, most * 2 + 2).is(0, "write", s, 0, 0);
            }
            run.is(BAD, "sheet", s, 3, 1).is(BAD, "sheet", s, -1, 1);
        }
        new Run().is(BAD, "sheet", 4, 0, 1).is(BAD, "sheet", -1, 0, 1).is(BAD, "write", 4, 0, 0);
    }

    private static void items() {
        Edges.says(TERMS, "A TALE is all SCENES with all CHOICES and THE START");
        for (World world : new World[] {World.FULL, World.BRIM}) {
            // All but these is as before behind back(): what is CUT, the tape, what waits, what was played, the SHEETS.
            world.made().does("keep", 0).does("cut", 4, 0).does("cut", 19, 1).does("start", 77).does("loss", 2, 1)
                .does("drop", 2, 5).does("line", 0, 0, 3, 3).does("write", 0, 1, 9).is(1, "back", 0)
                .is(0, "of", 4, 1).is(1, "of", 19, 1).is(8, "count", 5).is(2, "of", 2, 0).is(6, "of", 2, 4)
                .is(34, "of", 2, 5).is(40, "about", 0, 0, 5).is(2, "about", 0, 0, 6).is(9, "write", 0, 1, 0)
                .is(world.tape.length(), "count", 2).is(world.waiting.length(), "count", 3).is(1, "at", 0)
                .is(1, "at", 1).is(2, "count", 4);
        }
        Edges.says(TERMS, "ITEMS: each SCENE with its KIND, NEED, SET (or that it is not there), each CHOICE with all "
            + "that it has (or that it is not there), THE START: 141 of them, numbered: SCENE s is 7 s, its CHOICE k "
            + "is 7 s + 1 + k, THE START 140");
        allItems();
        eachPart();
    }

    /** None of the 141 is in THE BASE, all are in THE OTHER, all differ from it in THE TALE. */
    private static void allItems() {
        Run run = new Run().does("keep", 0);
        for (int hand = 1; hand < 3; hand++) {
            run.does("start", hand);
            for (int s = 0; s < 20; s++) {
                run.does("scene", s, hand);
                for (int k = 0; k < 6; k++) {
                    run.does("choice", s, k, hand);
                }
            }
            if (hand == 1) {
                run.does("keep", 1);
            }
        }
        for (int i = 0; i < 141; i++) {
            run.is(i, "clash", i);
        }
        run.is(NONE, "clash", 141).is(CLASHED, "melt").does("back", 0).is(141, "melt").is(0, "melt");
    }

    /** A call that tells a part of an ITEM has other arguments in THE BASE, in THE OTHER and in THE TALE. */
    private static void eachPart() {
        part(14, "scene", new long[] {2, 0}, new long[] {2, 1}, new long[] {2, 3});
        part(14, "scene", new long[] {2, -1}, new long[] {2, 0}, new long[] {2, 3});
        part(14, "scene", new long[] {2, 0}, new long[] {2, -1}, new long[] {2, 4});
        part(7, "loss", new long[] {1, 0}, new long[] {1, 1}, new long[] {1, 255});
        part(13, "choice", new long[] {1, 5, 0}, new long[] {1, 5, 1}, new long[] {1, 5, 19});
        part(8, "gives", new long[] {1, 0, 0, 0}, new long[] {1, 0, 1, 0}, new long[] {1, 0, 128, 0});
        part(8, "gives", new long[] {1, 0, 0, 0}, new long[] {1, 0, 0, 1}, new long[] {1, 0, 0, 128});
        part(8, "line", new long[] {1, 0, 0, 0}, new long[] {1, 0, 1, 0}, new long[] {1, 0, 99, 0});
        part(8, "line", new long[] {1, 0, 0, 0}, new long[] {1, 0, 0, 1}, new long[] {1, 0, 0, 3});
        part(140, "start", new long[] {0}, new long[] {1}, new long[] {255});
        // A CHOICE that is not there in one of the hands.
        ready().does("keep", 0).does("drop", 1, 0).does("keep", 1).does("choice", 1, 0, 3)
            .is(8, "clash", 0).is(NONE, "clash", 1).is(CLASHED, "melt");
        ready().does("drop", 1, 0).does("keep", 0).does("choice", 1, 0, 2).does("keep", 1).does("choice", 1, 0, 3)
            .is(8, "clash", 0).is(NONE, "clash", 1).is(CLASHED, "melt");
    }

    private static Run ready() {
        return new Run().does("scene", 0, 0).does("scene", 1, 2).does("choice", 1, 0, 0);
    }

    private static void part(int item, String name, long[] base, long[] other, long[] tale) {
        ready().does(name, base).does("keep", 0).does(name, other).does("keep", 1).does(name, tale)
            .is(item, "clash", 0).is(NONE, "clash", 1).is(CLASHED, "melt")
            .does(name, other).is(NONE, "clash", 0).is(0, "melt")
            .does(name, base).is(NONE, "clash", 0).is(1, "melt").is(0, "melt");
    }

    private static void sameNeeds() {
        Edges.says(TERMS, "Two NEEDS are the same if they hold for the same sets");
        String[][] same = {{"a&b", "!(!b|!a)"}, {"1", ""}, {"c|!c", "1"}, {"h&!h", "0"}, {"a|b&a", "a"}};
        for (String[] two : same) {
            Run scenes = new Run().scene(0, 1, two[0]).does("keep", 0).scene(0, 1, two[1]).does("keep", 1)
                .scene(0, 1, "g").is(NONE, "clash", 0).is(0, "melt").is(64, "of", 0, 2);
            // Told in two ways by two hands, it is one change, and no clash.
            scenes.scene(0, 1, "d").does("keep", 0).scene(0, 1, two[0]).does("keep", 1).scene(0, 1, two[1])
                .is(NONE, "clash", 0).is(0, "melt");
            new Run().does("scene", 0, 0).choice(0, 0, 0, two[0]).does("keep", 0).choice(0, 0, 0, two[1])
                .does("keep", 1).choice(0, 0, 0, "g").is(NONE, "clash", 0).is(0, "melt").is(64, "about", 0, 0, 1);
        }
        String[][] others = {{"a&!g&!h", "b&!g&!h", "c&!g&!h"}, {"a&g&!h", "b&g&!h", "c&g&!h"},
            {"a&!g&h", "b&!g&h", "c&!g&h"}, {"a&g&h", "b&g&h", "c&g&h"}, {"a&b&c&d&e&f&g&h", "0", "1"}};
        for (String[] three : others) {
            new Run().scene(0, 1, three[0]).does("keep", 0).scene(0, 1, three[1]).does("keep", 1)
                .scene(0, 1, three[2]).is(0, "clash", 0).is(CLASHED, "melt").does("back", 0).is(1, "melt");
            new Run().does("scene", 0, 0).choice(0, 0, 0, three[0]).does("keep", 0).choice(0, 0, 0, three[1])
                .does("keep", 1).choice(0, 0, 0, three[2]).is(1, "clash", 0).is(CLASHED, "melt");
        }
    }
}
