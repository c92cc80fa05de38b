/** The sentences of the promises 20 to 25: cuts, sheets, sessions. */
final class SheetEdges implements Findings {
    private static final int[] NO_SHEETS = {-1, 4, LEAST, MOST};
    private static final int[] NO_SORTS = {-1, 3, LEAST, MOST};

    private SheetEdges() {
    }

    static void test() {
        p20Cut();
        p21Mend();
        p22Sheet();
        p23Write();
        p24Words();
        p24Refused();
        p25Sessions();
        p25Refused();
    }

    private static void p20Cut() {
        Edges.says(20, "A SCENE is CUT, or not: 1 if it was, else 0");
        Run run = new Run();
        for (int s = 0; s < 20; s++) {
            run.is(0, "cut", s, 0).is(0, "cut", s, 1).is(1, "cut", s, 1).is(1, "of", s, 1);
        }
        for (int s = 19; s >= 0; s--) {
            run.is(1, "of", s, 1).is(1, "cut", s, 0).is(0, "of", s, 1).is(0, "cut", s, 0);
        }
        // There or not, and of whatever KIND from now on.
        new Run().is(0, "cut", 19, 1).is(-1, "scene", 19, 0).is(1, "of", 19, 1).is(0, "scene", 19, 3).is(1, "of", 19, 1)
            .is(3, "scene", 19, -1).is(1, "of", 19, 1).is(1, "cut", 19, 0).is(-1, "scene", 19, 0).is(0, "of", 19, 1);
        TermEdges.chain(3).does("cut", 19, 1).is(19, "states", 0).is(0, "states", 1).does("cut", 19, 0)
            .is(20, "states", 0).does("cut", 0, 1).is(0, "states", 0).does("cut", 0, 0).is(20, "states", 0);
        Edges.says(20, "BAD: no such SCENE");
        for (int s : NO_SCENES) {
            Edges.refused(BAD, "cut", s, 1);
            Edges.refused(BAD, "cut", s, 0);
        }
    }

    /** From SCENE 0 to 2 by 1, which is CUT, or with a NEED by the shorter CHOICE. */
    private static Run shortCut(String need) {
        return shortCutTo(2, need);
    }

    private static Run shortCutTo(int s, String need) {
        return new Run().does("scene", 0, 0).does("scene", 1, 0).does("scene", s, 3).does("choice", 0, 0, 1)
            .does("choice", 1, 0, s).does("cut", 1, 1).choice(0, 1, s, need);
    }

    private static void p21Mend() {
        Edges.says(21, "The set of FACTS which, together with THE START as that of THE BEGINNING, lets all SCENES be "
            + "REACHED that are REACHED when nothing is CUT, but those that are CUT: the one with the fewest FACTS, of "
            + "several the least number");
        new Run().is(0, "mend").does("scene", 0, 0).is(0, "mend").does("cut", 0, 1).is(0, "mend")
            .does("cut", 19, 1).is(0, "mend");
        shortCut("1").is(0, "mend").does("cut", 1, 0).is(0, "mend");
        for (int f = 0; f < 8; f++) {
            shortCut("" + (char) ('a' + f)).is(1 << f, "mend").does("cut", 2, 1).is(0, "mend");
        }
        for (int s = 2; s < 20; s++) {
            shortCutTo(s, "c").is(4, "mend").is(NONE, "way", s).does("start", 4).is(0, "mend").is(1, "way", s);
        }
        shortCut("a&b&c&d&e&f&g&h").is(255, "mend").does("start", 127).is(128, "mend").does("start", 254).is(1, "mend")
            .does("start", 255).is(0, "mend");
        shortCut("a&b|h").is(128, "mend");
        shortCut("b&c&d|g&h").is(192, "mend");
        shortCut("c&d|b&e|a&h").is(12, "mend");
        shortCut("h|g|f").is(32, "mend");
        // What is REACHED without it is to be REACHED with it, too, but for what is CUT.
        shortCut("a|b&c").does("scene", 3, 0).choice(0, 2, 3, "!a").is(6, "mend").does("cut", 3, 1).is(1, "mend");
        shortCut("!a").is(0, "mend").does("start", 1).is(NONE, "mend");
        // What is not REACHED even if nothing is CUT need not be; what is CUT must not be come by.
        shortCut("a").does("scene", 4, 0).choice(0, 5, 4, "h").is(1, "mend").does("start", 128).is(1, "mend")
            // But it may be.
            .does("start", 0).choice(0, 5, 4, "a").is(1, "mend").is(NONE, "way", 4);
        shortCut("a").does("choice", 2, 0, 5).does("scene", 5, 0).does("scene", 2, 0).is(1, "mend")
            .does("cut", 2, 1).is(NONE, "mend");
        // THE START of THE TALE, not of what is kept.
        shortCut("a").does("start", 255).does("keep", 0).does("keep", 1).does("start", 0).is(1, "mend");
        // SCENE 1 leads back without a and b, but one does not begin there.
        new Run().does("scene", 0, 0).does("scene", 1, 0).does("scene", 5, 0).does("choice", 0, 0, 5)
            .does("choice", 5, 0, 1).does("choice", 1, 0, 0).choice(0, 1, 1, "a&b").does("gives", 0, 1, 0, 3)
            .does("cut", 5, 1).is(3, "mend");
        // Of all STATES: SCENE 18 only by 19, which is CUT, or with all FACTS from 0, where a can be got.
        TermEdges.allStates().does("choice", 17, 0, 19).does("choice", 19, 0, 18).does("choice", 18, 0, 0)
            .choice(0, 3, 18, "a&b&c&d&e&f&g&h").is(5120, "states", 0).is(0, "mend").does("cut", 19, 1).is(254, "mend")
            .does("start", 0xf0).is(0x0e, "mend").does("cut", 18, 1).is(0, "mend");
        // However far it is from THE BEGINNING: all but h can be got on the way.
        StateEdges.sevenRounds().is(0, "mend").does("cut", 19, 1).is(128, "mend").does("start", 128).is(0, "mend")
            .does("start", 85).is(128, "mend").does("cut", 7, 1).is(NONE, "mend");
        Edges.says(21, "(Nothing changes.)");
        Edges.changesNothing("mend");
        shortCut("a").is(1, "states", 0).is(1, "mend").is(1, "states", 0).is(0, "count", 5).is(1, "of", 1, 1)
            .is(1, "mend").is(0, "play").is(0, "at", 1);
        Edges.says(21, "NONE: there is none such");
        Edges.refusedIn(World.NO_BEGINNING, NONE, "mend");
        shortCut("0").is(NONE, "mend").is(0, "count", 4).is(1, "states", 0);
        shortCut("a").does("cut", 0, 1).is(NONE, "mend").does("cut", 0, 0).is(1, "mend");
    }

    private static void p22Sheet() {
        Edges.says(22, "A SHEET is a row of n numbers, all 0, of a SORT: n");
        for (int s = 0; s < 4; s++) {
            for (int sort = 0; sort < 3; sort++) {
                for (int n : new int[] {0, 1, 29, 30}) {
                    Run run = new Run().is(n, "sheet", s, sort, n).is(PLACE, "write", s, n, 1);
                    for (int i = 0; i < n; i++) {
                        run.is(0, "write", s, i, 70001 + i);
                    }
                    // Once more, as long or longer: all are 0 again.
                    run.is(n, "sheet", s, sort, n);
                    for (int i = 0; i < n; i++) {
                        run.is(0, "write", s, i, 9);
                    }
                    run.is(30, "sheet", s, sort, 30);
                    for (int i = 0; i < 30; i++) {
                        run.is(0, "write", s, i, 0);
                    }
                }
            }
        }
        new Run().does("sheet", 0, 0, 1).is(0, "write", 0, 0, 300).is(44, "write", 0, 0, 0)
            .does("sheet", 0, 1, 1).is(0, "write", 0, 0, 70000).is(4464, "write", 0, 0, 0)
            .does("sheet", 0, 2, 1).is(0, "write", 0, 0, 70000).is(70000, "write", 0, 0, 0)
            .does("sheet", 1, 0, 2).is(0, "write", 0, 0, 1).is(PLACE, "write", 0, 1, 1);
        Edges.says(22, "BAD: no such SHEET, SORT, or n is above 30");
        for (int s : NO_SHEETS) {
            Edges.refused(BAD, "sheet", s, 0, 1);
            Edges.refused(BAD, "sheet", s, 2, -1);
        }
        for (int sort : NO_SORTS) {
            Edges.refused(BAD, "sheet", 0, sort, 1);
            Edges.refused(BAD, "sheet", 3, sort, -1);
        }
        for (int n : new int[] {31, 32, 100, MOST}) {
            Edges.refused(BAD, "sheet", 0, 0, n);
            Edges.refused(BAD, "sheet", 3, 2, n);
        }
        Edges.says(22, "SIZE: n is below 0");
        for (int n : new int[] {-1, -30, LEAST}) {
            Edges.refused(SIZE, "sheet", 0, 0, n);
            Edges.refused(SIZE, "sheet", 3, 2, n);
        }
    }

    private static void p23Write() {
        Edges.says(23, "Number i of a SHEET becomes v, narrowed to its SORT: what it was");
        int[] told = {0, 127, 128, 129, 255, 256, 257, -1, -128, -129, -256, 32767, 32768, 65535, 65536, 65537, -32768,
            -32769, -65536, MOST, LEAST, -1010};
        int[][] kept = {
            {0, 127, -128, -127, -1, 0, 1, -1, -128, 127, 0, -1, 0, -1, 0, 1, 0, -1, 0, -1, 0, 14},
            {0, 127, 128, 129, 255, 256, 257, -1, -128, -129, -256, 32767, -32768, -1, 0, 1, -32768, 32767, 0, -1, 0,
                -1010},
            told
        };
        for (int sort = 0; sort < 3; sort++) {
            for (int i : new int[] {0, 15, 29}) {
                Run run = new Run().does("sheet", sort, sort, 30);
                long was = 0;
                for (int n = 0; n < told.length; n++) {
                    run.is(was, "write", sort, i, told[n]);
                    was = kept[sort][n];
                }
                run.is(was, "write", sort, i, 0).is(0, "write", sort, i, 0).is(0, "write", sort, 1, 0)
                    .is(0, "write", sort, 28, 0).is(0, "count", 4);
            }
        }
        Edges.says(23, "BAD: no such SHEET");
        for (int s : NO_SHEETS) {
            Edges.refused(BAD, "write", s, 0, 1);
            Edges.refused(BAD, "write", s, -1, 1);
        }
        Edges.says(23, "NOTHING: it is MISSING");
        for (int i : new int[] {0, -1, 30, LEAST, MOST}) {
            Edges.refusedIn(World.FULL, NOTHING, "write", 3, i, 1);
            for (int s = 0; s < 4; s++) {
                Edges.refusedIn(World.BLANK, NOTHING, "write", s, i, 1);
            }
        }
        Edges.says(23, "PLACE: it has none such");
        for (int i : new int[] {-1, 3, 29, 30, LEAST, MOST}) {
            for (int s = 0; s < 3; s++) {
                Edges.refusedIfTold(PLACE, "write", s, i, 1);
            }
        }
        Edges.refusedIn(World.BRIM, PLACE, "write", 3, 30, 1);
        Edges.refusedIn(World.BRIM, PLACE, "write", 3, -1, 1);
        new Run().does("sheet", 0, 0, 0).is(PLACE, "write", 0, 0, 1).does("sheet", 0, 0, 30).is(0, "write", 0, 29, 1)
            .does("sheet", 0, 0, 29).is(PLACE, "write", 0, 29, 1).is(2, "count", 4);
    }

    /** SCENE 0 with all six CHOICES, of WORDS 7 and VOICE 2, and a SHEET of 30 ints: 1 to 30. */
    private static Run sixLines() {
        Run run = new Run().does("scene", 0, 0).does("sheet", 1, 2, 30);
        for (int k = 0; k < 6; k++) {
            run.does("choice", 0, k, 0).does("line", 0, k, 7, 2).does("gives", 0, k, 1, 2);
        }
        for (int i = 0; i < 30; i++) {
            run.does("write", 1, i, i + 1);
        }
        return run;
    }

    private static Run wordsAre(Run run, int... words) {
        for (int k = 0; k < words.length; k++) {
            run.is(words[k], "about", 0, k, 5).is(2, "about", 0, k, 6).is(1, "about", 0, k, 3).is(2, "about", 0, k, 4);
        }
        return run;
    }

    private static void p24Words() {
        Edges.says(24, "WORDS of all CHOICES of a SCENE that are there come from a SHEET, taken as a row of a SORT: "
            + "CHOICE k's are number i + k, those below 0 being 0, those above 99 being 99: how many were one of "
            + "these");
        wordsAre(sixLines().is(0, "words", 0, 1, 2, 0), 1, 2, 3, 4, 5, 6);
        wordsAre(sixLines().is(0, "words", 0, 1, 2, 24), 25, 26, 27, 28, 29, 30);
        int[] numbers = {-1, 0, 99, 100, LEAST, MOST};
        Run run = sixLines();
        for (int i = 0; i < 6; i++) {
            run.does("write", 1, i, numbers[i]);
        }
        wordsAre(run.is(4, "words", 0, 1, 2, 0), 0, 0, 99, 99, 0, 99);
        run.is(100, "write", 1, 3, 5).is(LEAST, "write", 1, 4, 98);
        wordsAre(run.is(2, "words", 0, 1, 2, 0), 0, 0, 99, 5, 98, 99);
        // Six of them, whatever else is there, ahead of them, between them and behind them.
        run = sixLines().does("scene", 1, 0).does("choice", 1, 0, 0).does("keep", 0);
        for (int i = 0; i < 30; i++) {
            run.does("write", 1, i, 100 + i);
        }
        run.is(6, "words", 0, 1, 2, 1).does("keep", 1).does("back", 0).is(6, "melt").is(0, "about", 1, 0, 5)
            .does("drop", 0, 3).does("keep", 0).is(5, "words", 0, 1, 2, 1).does("keep", 1).is(0, "melt")
            .does("back", 0).is(0, "melt").does("line", 0, 0, 1, 2).does("keep", 0).is(5, "words", 0, 1, 2, 1)
            .does("keep", 1).does("back", 0).is(1, "melt").is(99, "about", 0, 0, 5);
        // Only those that are there: the numbers of the others need not be.
        run = sixLines().does("drop", 0, 0).does("drop", 0, 1).does("drop", 0, 4).is(0, "words", 0, 1, 2, -2)
            .is(1, "about", 0, 2, 5).is(2, "about", 0, 3, 5).is(4, "about", 0, 5, 5).is(PLACE, "words", 0, 1, 2, -3)
            .does("drop", 0, 2).does("drop", 0, 3).is(0, "words", 0, 1, 2, -5).is(1, "about", 0, 5, 5)
            .is(PLACE, "words", 0, 1, 2, -6).is(0, "words", 0, 1, 2, 24).is(30, "about", 0, 5, 5)
            .is(PLACE, "words", 0, 1, 2, 25).does("drop", 0, 5);
        for (int i : new int[] {0, -1, 30, LEAST, MOST}) {
            run.is(0, "words", 0, 1, 2, i);
        }
        run.does("sheet", 1, 0, 0).is(0, "words", 0, 1, 0, 0);
        for (int sort = 0; sort < 3; sort++) {
            for (int kind = 0; kind < 5; kind++) {
                // As the numbers are narrowed, and for a SCENE of every KIND.
                long[] due = {50, 99, 99};
                new Run().does("scene", 19, kind).does("choice", 19, 5, 0).does("sheet", 3, sort, 6)
                    .does("write", 3, 5, 306).is(sort == 0 ? 0 : 1, "words", 19, 3, sort, 0)
                    .is(due[sort], "about", 19, 5, 5);
            }
        }
    }

    private static void p24Refused() {
        Edges.says(24, "BAD: no such SCENE, SHEET, SORT");
        for (int s : NO_SCENES) {
            Edges.refused(BAD, "words", s, 0, 0, 0);
        }
        for (int sheet : NO_SHEETS) {
            Edges.refused(BAD, "words", 0, sheet, 0, 0);
            Edges.refused(BAD, "words", 9, sheet, 1, -1);
        }
        for (int sort : NO_SORTS) {
            Edges.refused(BAD, "words", 0, 0, sort, 0);
            Edges.refused(BAD, "words", 9, 0, sort, -1);
            Edges.refusedIn(World.FULL, BAD, "words", 0, 3, sort, 0);
        }
        Edges.says(24, "NOTHING: the SCENE is not there, or the SHEET MISSING");
        for (int sort = 0; sort < 3; sort++) {
            Edges.refused(NOTHING, "words", 9, 0, sort, 0);
            Edges.refused(NOTHING, "words", 19, 0, sort, MOST);
            Edges.refusedIn(World.FULL, NOTHING, "words", 0, 3, sort, 0);
            Edges.refusedIn(World.FULL, NOTHING, "words", 1, 3, sort, LEAST);
            Edges.refusedIn(World.FULL, NOTHING, "words", 9, 3, sort, 0);
        }
        Edges.says(24, "SORT: it is of another one");
        for (int sheet = 0; sheet < 3; sheet++) {
            for (int sort = 0; sort < 3; sort++) {
                if (sort != sheet) {
                    Edges.refusedIfTold(SORT, "words", 0, sheet, sort, 0);
                    Edges.refusedIfTold(SORT, "words", 0, sheet, sort, MOST);
                    // SCENE 1 has no CHOICES.
                    Edges.refusedIfTold(SORT, "words", 1, sheet, sort, 0);
                }
            }
        }
        Edges.says(24, "PLACE: it has not one that is asked for");
        for (int i : new int[] {-6, -4, -3, -1, 0, 1, 2, 3, 30, LEAST, LEAST + 1, MOST - 3, MOST}) {
            Edges.refusedIfTold(PLACE, "words", 0, 0, 0, i);
            Edges.refusedIfTold(PLACE, "words", 2, 1, 1, i);
        }
        for (int i : new int[] {-1, 25, 29, 30, LEAST, MOST - 5, MOST - 4, MOST}) {
            // None of the six is told anew, those neither that have a number.
            wordsAre(sixLines().is(PLACE, "words", 0, 1, 2, i), 7, 7, 7, 7, 7, 7);
        }
        sixLines().does("sheet", 1, 2, 0).is(PLACE, "words", 0, 1, 2, 0).does("sheet", 1, 2, 5)
            .is(PLACE, "words", 0, 1, 2, 0).does("sheet", 1, 2, 6).is(0, "words", 0, 1, 2, 0);
    }

    /** As many lines of a VOICE as there are numbers, by SCENES and CHOICES, but told from behind. */
    private static Run lines(int voice, int... words) {
        Run run = new Run();
        for (int s = 0; s < 20; s++) {
            run.does("scene", s, s % 5);
        }
        for (int n = words.length - 1; n >= 0; n--) {
            run.does("choice", n / 6, n % 6, 19).does("line", n / 6, n % 6, words[n], voice);
        }
        return run;
    }

    private static void p25Sessions() {
        Edges.says(25, "The fewest SESSIONS for a VOICE: rows of its CHOICES that are there and have WORDS, one behind "
            + "the other by SCENES and CHOICES, none with more than so many WORDS");
        for (int voice = 0; voice < 4; voice++) {
            new Run().is(0, "sessions", voice, 1).is(0, "sessions", voice, 1000);
            lines(voice, 1).is(1, "sessions", voice, 1).is(1, "sessions", voice, 1000)
                .is(0, "sessions", 3 - voice, 1).is(0, "sessions", voice ^ 1, 1000);
            lines(voice, 1, 1, 1).is(3, "sessions", voice, 1).is(2, "sessions", voice, 2).is(1, "sessions", voice, 3);
        }
        int[] most = new int[120];
        java.util.Arrays.fill(most, 99);
        lines(3, most).is(120, "count", 1).is(120, "sessions", 3, 99).is(120, "sessions", 3, 197)
            .is(60, "sessions", 3, 198).is(14, "sessions", 3, 989).is(12, "sessions", 3, 990)
            .is(12, "sessions", 3, 1000).is(0, "sessions", 2, 1000);
        // Not put in another order, and not parted.
        lines(0, 60, 60, 40, 40).is(3, "sessions", 0, 100).is(4, "sessions", 0, 79).is(3, "sessions", 0, 80)
            .is(2, "sessions", 0, 120).is(2, "sessions", 0, 199).is(1, "sessions", 0, 200);
        lines(1, 0, 30, 0, 80, 20, 0, 0, 0, 99, 1).is(5, "sessions", 1, 99).is(3, "sessions", 1, 100)
            .is(2, "sessions", 1, 200).is(2, "sessions", 1, 229).is(1, "sessions", 1, 230);
        lines(2, 0, 0, 0).is(0, "sessions", 2, 1);
        // Those that are there, REACHED or not, CUT or not; another VOICE between them is none of theirs.
        lines(2, 50, 50, 50, 50, 50, 50, 50).does("line", 0, 1, 99, 3).is(3, "sessions", 2, 100).does("drop", 0, 0)
            .is(3, "sessions", 2, 100).does("drop", 1, 0).is(2, "sessions", 2, 100).does("cut", 0, 1)
            .is(2, "sessions", 2, 100).is(1, "sessions", 3, 99).does("scene", 0, -1).is(0, "sessions", 2, 100)
            .is(0, "sessions", 3, 1);
    }

    private static void p25Refused() {
        Edges.says(25, "BAD: no such VOICE, or most is not 1 .. 1000");
        for (int voice : new int[] {-1, 4, LEAST, MOST}) {
            Edges.refused(BAD, "sessions", voice, 1);
            Edges.refused(BAD, "sessions", voice, 1000);
            Edges.refused(BAD, "sessions", voice, 0);
        }
        for (int most : new int[] {0, -1, 1001, LEAST, MOST}) {
            for (int voice = 0; voice < 4; voice++) {
                Edges.refused(BAD, "sessions", voice, most);
            }
        }
        Edges.says(25, "NONE: one CHOICE has more");
        Edges.refusedIfTold(NONE, "sessions", 2, 1);
        Edges.refusedIfTold(NONE, "sessions", 2, 40);
        for (int n = 0; n < 7; n++) {
            int[] words = {1, 1, 1, 1, 1, 1, 1};
            words[n] = 3;
            lines(1, words).is(NONE, "sessions", 1, 1).is(NONE, "sessions", 1, 2).is(0, "sessions", 0, 1)
                .does("line", n / 6, n % 6, 3, 0).is(NONE, "sessions", 0, 2).is(1, "sessions", 0, 3)
                .is(6, "sessions", 1, 1);
        }
        lines(3, 99).is(NONE, "sessions", 3, 98).is(1, "sessions", 3, 99);
    }
}
