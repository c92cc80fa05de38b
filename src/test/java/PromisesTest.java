/** Each promise of the document in tales as they are told; the edges of each of its sentences are in EdgesTest. */
public final class PromisesTest implements Findings {
    private static void due(String call, long got, long want) {
        Check.due(call, got, want);
    }

    private static void p1NewObject() {
        TaleBench b = new TaleBench();
        for (int what = 0; what < 6; what++) {
            due("1: count(" + what + ")", b.count(what), 0);
        }
        for (int s = 0; s < 20; s++) {
            due("1: of(s, 0)", b.of(s, 0), -1);
            due("1: of(s, 1)", b.of(s, 1), 0);
        }
        for (int s = 0; s < 4; s++) {
            due("1: write", b.write(s, 0, 0), NOTHING);
        }
        due("1: back(0)", b.back(0), NOTHING);
        due("1: back(1)", b.back(1), NOTHING);
        due("1: at(0)", b.at(0), NONE);
    }

    private static void p2Feed() {
        TaleBench b = new TaleBench();
        due("2: feed lowest first", b.feed(0x7778217C61L, 3), 3);
        due("2: feed more", b.feed(0x62L, 1), 4);
        due("2: a|!b", b.scene(0, 1), -1);
        due("2: reads", b.of(0, 2), 3);
        due("2: holds", b.of(0, 3), 192);
        b.feed(0x3131313131313131L, 1);
        due("2: one byte of eight", b.scene(1, 1), -1);
        for (int n = 1; n <= 12; n++) {
            due("2: eight bytes", b.feed(-1L, 8), 8 * n);
        }
        due("2: 101", b.feed(0, 5), BAD);
        due("2: 100", b.feed(0, 4), 100);
        due("2: 101 again", b.feed(0, 1), BAD);
        due("2: still 100", b.count(2), 100);
    }

    private static void p3Scene() {
        TaleBench b = new TaleBench();
        int was = -1;
        for (int kind = 0; kind <= 4; kind++) {
            Tales.feed(b, "a");
            due("3: what it was", b.scene(19, kind), was);
            due("3: kind", b.of(19, 0), kind);
            due("3: tape", b.count(2), 0);
            due("3: need", b.of(19, 3), kind == 0 || kind == 3 ? 256 : 128);
            due("3: reads", b.of(19, 2), kind == 0 || kind == 3 ? 0 : 1);
            was = kind;
        }
        b.scene(19, 2);
        due("3: need of nothing", b.of(19, 3), 256);
        due("3: reads nothing", b.of(19, 2), 0);
        b.loss(19, 9);
        b.choice(19, 5, 3);
        due("3: from LOSS to LOSS", b.scene(19, 2), 2);
        due("3: SET is empty", b.of(19, 4), 0);
        due("3: CHOICES stay", b.of(19, 5), 32);
        Tales.feed(b, "((");
        due("3: not there", b.scene(19, -1), 2);
        due("3: not there, tape", b.count(2), 0);
        due("3: not there again", b.scene(19, -1), -1);
        b.scene(19, 0);
        due("3: CHOICES went", b.of(19, 5), 0);
        Tales.feed(b, "nonsense");
        due("3: no need, no text", b.scene(19, 3), 0);
        Tales.feed(b, "nonsense");
        due("3: no need, no text", b.scene(19, 0), 3);
    }

    private static void p4Loss() {
        TaleBench b = new TaleBench();
        b.scene(7, 2);
        due("4: loss", b.loss(7, 255), 0);
        due("4: loss again", b.loss(7, 0), 255);
        due("4: loss once more", b.loss(7, 5), 0);
        due("4: SET", b.of(7, 4), 5);
        b.scene(0, 0);
        b.choice(0, 0, 7);
        b.gives(0, 0, 1, 0);
        b.choice(7, 0, 0);
        due("4: a is lost", b.states(0), 2);
        b.loss(7, 4);
        due("4: a is not lost any more", b.states(0), 3);
    }

    private static void p5Choice() {
        TaleBench b = new TaleBench();
        b.scene(0, 3);
        due("5: to one not there", Tales.choice(b, 0, 5, 19, "a"), 0);
        due("5: tape", b.count(2), 0);
        due("5: to", b.about(0, 5, 0), 19);
        due("5: need", b.about(0, 5, 1), 1);
        b.gives(0, 5, 1, 2);
        b.line(0, 5, 9, 3);
        due("5: again", b.choice(0, 5, 0), 1);
        int[] fresh = {0, 0, 256, 0, 0, 0, 0};
        for (int what = 0; what < 7; what++) {
            due("5: fresh, about(0, 5, " + what + ")", b.about(0, 5, what), fresh[what]);
        }
    }

    private static void p6Gives() {
        TaleBench b = new TaleBench();
        b.scene(0, 0);
        b.choice(0, 0, 0);
        due("6: gives", b.gives(0, 0, 0x0f, 0xf0), 1);
        due("6: GIVES", b.about(0, 0, 3), 0x0f);
        due("6: TAKES", b.about(0, 0, 4), 0xf0);
        due("6: gives all", b.gives(0, 0, 255, 0), 1);
        due("6: TAKES none", b.about(0, 0, 4), 0);
    }

    private static void p7Line() {
        TaleBench b = new TaleBench();
        b.scene(0, 0);
        b.choice(0, 0, 0);
        due("7: line", b.line(0, 0, 99, 3), 1);
        due("7: WORDS", b.about(0, 0, 5), 99);
        due("7: VOICE", b.about(0, 0, 6), 3);
        due("7: line again", b.line(0, 0, 0, 0), 1);
        due("7: no WORDS", b.about(0, 0, 5), 0);
    }

    private static void p8Drop() {
        TaleBench b = Tales.full();
        due("8: drop", b.drop(0, 0), 1);
        due("8: drop again", b.drop(0, 0), 0);
        due("8: of none", b.drop(9, 0), 0);
        due("8: what is there", b.of(0, 5), 8);
        due("8: count", b.count(1), 2);
        due("8: fresh web", b.open(0, 3), 1);
        b.drop(0, 3);
        due("8: stuck", b.states(0), 1);
    }

    private static void p9Start() {
        TaleBench b = new TaleBench();
        due("9: start", b.start(255), 0);
        due("9: start again", b.start(0), 255);
        due("9: start once more", b.start(6), 0);
        due("9: count(5)", b.count(5), 6);
        b.scene(0, 0);
        b.play();
        due("9: facts", b.at(1), 6);
    }

    private static void p10Of() {
        TaleBench b = Tales.full();
        int[][] want = {{0, 0, 0, 256, 0, 9}, {1, 0, 1, 128, 0, 0}, {2, 0, 0, 256, 6, 2}, {3, 0, 0, 256, 0, 0},
            {4, 1, 6, 192, 0, 0}};
        for (int s = 0; s < 5; s++) {
            for (int what = 0; what < 6; what++) {
                due("10: of(" + s + ", " + what + ")", b.of(s, what), want[s][what]);
            }
        }
        b.cut(9, true);
        due("10: KIND of none", b.of(9, 0), -1);
        due("10: none that is CUT", b.of(9, 1), 1);
    }

    private static void p11About() {
        TaleBench b = Tales.full();
        int[] want = {1, 0, 256, 1, 8, 40, 2};
        int[] second = {2, 9, 64, 0, 0, 0, 0};
        for (int what = 0; what < 7; what++) {
            due("11: about(0, 0, " + what + ")", b.about(0, 0, what), want[what]);
            due("11: about(0, 3, " + what + ")", b.about(0, 3, what), second[what]);
        }
    }

    /**
     * A well (1) that gives the key a; a gate (2) that needs it, behind it the ending (3); a fall (4) in which the key
     * is lost, and from which one comes back to the well, if b has not been taken along; a hole (5) without a way out.
     */
    private static TaleBench well() {
        TaleBench b = new TaleBench();
        b.scene(0, 0);
        b.scene(1, 0);
        Tales.scene(b, 2, 1, "a");
        b.scene(3, 3);
        b.scene(4, 2);
        b.loss(4, 1);
        b.scene(5, 0);
        b.choice(0, 0, 1);
        b.choice(0, 1, 2);
        b.choice(1, 0, 2);
        b.gives(1, 0, 1, 0);
        b.choice(1, 1, 4);
        b.choice(1, 2, 4);
        b.gives(1, 2, 2, 0);
        b.choice(2, 0, 3);
        b.choice(2, 1, 4);
        Tales.choice(b, 4, 0, 1, "!b");
        Tales.choice(b, 4, 3, 5, "b");
        return b;
    }

    private static void p12States() {
        TaleBench alone = new TaleBench();
        due("12: none is there", alone.states(0), 0);
        alone.scene(0, 0);
        due("12: STUCK at once", alone.states(2), 1);
        due("12: and HOPELESS", alone.states(3), 1);
        TaleBench b = well();
        // 0:-, 1:-, 2:a, 4:-, 4:b, 3:a, 5:b
        due("12: REACHED", b.states(0), 7);
        due("12: endings", b.states(1), 1);
        due("12: STUCK", b.states(2), 1);
        due("12: HOPELESS", b.states(3), 2);
        // At 4 b is live; nothing else parts two states of a scene.
        due("12: pairs", b.states(4), 7);
        b.drop(4, 3);
        due("12: STUCK sooner", b.states(2), 1);
        due("12: REACHED then", b.states(0), 6);
        b.scene(4, 0);
        b.start(4);
        due("12: c is never read", b.states(4), 6);
        b.scene(0, 3);
        due("12: THE BEGINNING is an ending", b.states(1), 1);
        due("12: no way on from an ending", b.states(0), 1);
        due("12: an ending is not STUCK", b.states(2), 0);
        due("12: nor HOPELESS", b.states(3), 0);
        b.scene(0, 4);
        due("12: a PRIZE is an ending", b.states(1), 1);
        b.cut(0, true);
        for (int what = 0; what < 5; what++) {
            due("12: no BEGINNING, CUT", b.states(what), 0);
        }
        pairsWithoutDeadFacts();
    }

    private static void pairsWithoutDeadFacts() {
        TaleBench b = new TaleBench();
        b.scene(0, 0);
        for (int f = 0; f < 6; f++) {
            b.choice(0, f, 0);
            b.gives(0, f, 1 << f, 0);
        }
        due("12: all sets", b.states(0), 64);
        due("12: none is read", b.states(4), 1);
        due("12: all HOPELESS, none STUCK", b.states(3) * 100L + b.states(2), 6400);
        b.scene(1, 3);
        Tales.choice(b, 0, 0, 1, "b&c");
        due("12: two are read", b.states(4), 5);
        due("12: sets without a, and those of the ending", b.states(0), 32 + 8);
        due("12: the ending's", b.states(1), 8);
    }

    private static void p13Reached() {
        TaleBench b = well();
        int[] want = {1, 1, 1, 1, 2, 1, 0};
        for (int s = 0; s < want.length; s++) {
            due("13: reached(" + s + ")", b.reached(s), want[s]);
        }
        b.start(1);
        due("13: the gate is open", b.reached(2), 1);
        due("13: by the fall", b.reached(1), 2);
        b.cut(4, true);
        due("13: CUT", b.reached(4), 0);
        due("13: nor behind it", b.reached(5), 0);
        due("13: not there", b.reached(19), 0);
    }

    private static void p14Live() {
        TaleBench b = well();
        int[] want = {3, 2, 2, 0, 2, 0};
        for (int s = 0; s < want.length; s++) {
            due("14: live(" + s + ")", b.live(s), want[s]);
        }
        b.loss(4, 3);
        due("14: less the SET, not at the LOSS itself", b.live(4) * 10L + b.live(2), 20);
        b.cut(4, true);
        b.loss(4, 0);
        due("14: what is CUT counts as there", b.live(2), 2);
        b.scene(4, -1);
        due("14: what is not there does not", b.live(2), 0);
        b.scene(0, 3);
        due("14: none at an ending", b.live(0), 0);
        b.scene(0, 4);
        due("14: none at a PRIZE", b.live(0), 0);
        liveNoMore();
        liveThroughNeeds();
    }

    private static void liveNoMore() {
        TaleBench b = new TaleBench();
        b.scene(0, 0);
        b.scene(1, 0);
        b.choice(0, 0, 1);
        b.choice(1, 0, 0);
        Tales.choice(b, 1, 1, 0, "c");
        due("14: in a ring", b.live(0) * 10L + b.live(1), 44);
        b.drop(1, 1);
        due("14: no more", b.live(0) * 10L + b.live(1), 0);
    }

    private static void liveThroughNeeds() {
        TaleBench b = new TaleBench();
        b.scene(0, 0);
        Tales.choice(b, 0, 0, 1, "a");
        due("14: TO is not there", b.live(0), 0);
        Tales.scene(b, 1, 4, "b&c&d");
        due("14: needs of both", b.live(0), 15);
        b.gives(0, 0, 2, 5);
        due("14: less GIVES and TAKES, not of its own need", b.live(0), 9);
        Tales.scene(b, 1, 2, "b");
        b.loss(1, 18);
        Tales.choice(b, 1, 0, 2, "b&e&f");
        Tales.choice(b, 1, 1, 2, "g|!g");
        b.scene(2, 0);
        b.gives(0, 0, 0, 0);
        due("14: the need of a LOSS is not less its SET", b.live(0), 1 + 2 + 32);
        due("14: at the LOSS", b.live(1), 2 + 16 + 32);
        for (int s = 2; s < 19; s++) {
            b.scene(s + 1, 0);
            b.choice(s, 0, s + 1);
        }
        Tales.choice(b, 19, 0, 1, "h");
        b.choice(1, 5, 3);
        due("14: round and round", b.live(4), 128 + 2 + 32);
    }

    private static void p15Open() {
        TaleBench b = well();
        due("15: open", b.open(0, 0), 1);
        due("15: a need of TO does not hold", b.open(0, 1), 0);
        due("15: GIVES are there for the need of TO", b.open(1, 0), 1);
        due("15: in one of two", b.open(4, 0), 1);
        due("15: in the other", b.open(4, 3), 1);
        b.cut(4, true);
        due("15: TO is CUT", b.open(1, 1), 0);
        b.cut(4, false);
        b.scene(4, -1);
        due("15: TO is not there", b.open(1, 1), 0);
        b.scene(4, 0);
        due("15: TO is there again", b.open(1, 1), 1);
        b.gives(1, 0, 0, 1);
        due("15: TAKES are not", b.open(1, 0), 0);
        b.start(1);
        b.gives(1, 0, 0, 0);
        due("15: both gates", b.open(0, 1) * 10L + b.open(1, 0), 11);
        b.scene(0, 3);
        due("15: of an ending", b.open(0, 0), 0);
        openBeforeLoss();
    }

    private static void openBeforeLoss() {
        TaleBench b = new TaleBench();
        Tales.scene(b, 0, 2, "b");
        b.loss(0, 1);
        b.start(1);
        Tales.choice(b, 0, 0, 1, "a");
        Tales.scene(b, 1, 2, "a&c");
        b.loss(1, 5);
        b.gives(0, 0, 4, 0);
        due("15: THE BEGINNING asks no need and loses nothing", b.open(0, 0), 1);
        b.tell(0);
        b.play();
        due("15: the SET goes behind the need", b.at(0) * 1000L + b.at(1), 1000);
    }

    private static void p16Trap() {
        TaleBench b = well();
        due("16: trap(0)", b.trap(0), 12);
        due("16: trap(1)", b.trap(1), NONE);
        b.choice(2, 5, 5);
        b.choice(0, 4, 5);
        due("16: by SCENES", b.trap(0), 4);
        due("16: by SCENES", b.trap(1), 12);
        due("16: then by CHOICES", b.trap(2), 25);
        due("16: no more", b.trap(3), NONE);
        for (int i : new int[] {-1, 120, Integer.MIN_VALUE, Integer.MAX_VALUE}) {
            due("16: trap(" + i + ")", b.trap(i), NONE);
        }
        b.choice(0, 0, 5);
        b.choice(0, 4, 1);
        due("16: CHOICE 0 of SCENE 0", b.trap(0), 0);
        b.drop(2, 0);
        due("16: all is past hope", b.trap(0), NONE);
    }

    private static void p17Way() {
        TaleBench b = well();
        int[] want = {0, 1, 2, 3, 2, 3};
        for (int s = 0; s < want.length; s++) {
            due("17: way(" + s + ")", b.way(s), want[s]);
        }
        b.start(1);
        due("17: the gate is open", b.way(3), 2);
    }

    private static void p18Step() {
        TaleBench b = well();
        int[] want = {0, 0, 0, -1, -1};
        for (int i = 0; i < want.length; i++) {
            due("18: step(3, " + i + ")", b.step(3, i), want[i]);
        }
        due("18: the lesser of two", b.step(4, 1), 1);
        due("18: by the dearer CHOICE", b.step(5, 1), 2);
        due("18: the last", b.step(5, 2), 3);
        due("18: far behind", b.step(5, Integer.MAX_VALUE), -1);
        due("18: no way is needed", b.step(0, 0), -1);
        lesserFirst();
    }

    /** Two ways as short as each other: the first difference counts, not the SCENES, nor the FACTS. */
    private static void lesserFirst() {
        TaleBench b = new TaleBench();
        for (int s = 0; s < 4; s++) {
            b.scene(s, 0);
        }
        b.choice(0, 2, 1);
        b.choice(0, 1, 2);
        b.choice(1, 0, 3);
        b.choice(2, 5, 3);
        b.gives(2, 5, 255, 0);
        due("18: way", b.way(3), 2);
        due("18: lesser first", b.step(3, 0), 1);
        due("18: dearer then", b.step(3, 1), 5);
    }

    private static void p19Ways() {
        TaleBench b = well();
        due("19: ways(0)", b.ways(0), 0);
        due("19: ways(2)", b.ways(2), 0);
        due("19: ways(3)", b.ways(3), 1);
        due("19: ways(5)", b.ways(5), 1);
        due("19: ways(6)", b.ways(6), 1);
        due("19: ways(7)", b.ways(7), 1);
        due("19: ways(8)", b.ways(8), 2);
        TaleBench many = new TaleBench();
        many.scene(0, 0);
        many.scene(1, 4);
        for (int k = 0; k < 6; k++) {
            many.choice(0, k, k == 5 ? 1 : 0);
        }
        long want = 1;
        for (int n = 1; n <= 20; n++) {
            due("19: five to the " + (n - 1), many.ways(n), want);
            want *= 5;
        }
        due("19: none is an ending at once", many.ways(0), 0);
        many.scene(0, 3);
        due("19: THE BEGINNING is an ending", many.ways(0), 1);
        due("19: and leads nowhere", many.ways(1), 0);
    }

    private static void p20Cut() {
        TaleBench b = well();
        due("20: cut", b.cut(2, true), 0);
        due("20: cut again", b.cut(2, true), 1);
        due("20: states", b.states(1), 0);
        due("20: a new KIND does not heal", b.scene(2, 0), 1);
        due("20: still CUT", b.of(2, 1), 1);
        b.keep(0);
        due("20: not cut", b.cut(2, false), 1);
        due("20: not cut again", b.cut(2, false), 0);
        b.back(0);
        due("20: what is kept has no cuts", b.of(2, 1), 0);
        due("20: not there, but CUT", b.cut(19, true), 0);
        due("20: then there", b.scene(19, 0), -1);
        due("20: and CUT", b.of(19, 1), 1);
    }

    private static void p21Mend() {
        TaleBench b = well();
        due("21: nothing is CUT", b.mend(), 0);
        b.cut(1, true);
        due("21: only b opens the hole, and only a the gate", b.mend(), 3);
        due("21: nothing changed", b.count(5) * 10L + b.reached(2), 0);
        b.start(2);
        due("21: with what THE START has", b.mend(), 1);
        b.start(3);
        due("21: THE START has all", b.mend(), 0);
        b.start(0);
        b.cut(5, true);
        due("21: but those that are CUT", b.mend(), 1);
        b.cut(2, true);
        due("21: the fall can't be come to", b.mend(), NONE);
        b.cut(0, true);
        due("21: no BEGINNING", b.mend(), NONE);
        fewestFactsFirst();
    }

    private static void fewestFactsFirst() {
        TaleBench b = new TaleBench();
        b.scene(0, 0);
        b.scene(1, 0);
        b.scene(2, 3);
        b.choice(0, 0, 1);
        b.choice(1, 0, 2);
        b.cut(1, true);
        Tales.choice(b, 0, 1, 2, "a&b|h");
        due("21: one fact, not the least number", b.mend(), 128);
        Tales.choice(b, 0, 1, 2, "c&d|b&e|b&f");
        due("21: of several the least number", b.mend(), 12);
        Tales.choice(b, 0, 1, 2, "a&b&c&d&e&f&g&h");
        due("21: all", b.mend(), 255);
        b.start(0xf0);
        due("21: only what THE START has not", b.mend(), 15);
        b.scene(3, 0);
        Tales.choice(b, 0, 2, 3, "!a");
        due("21: what was open may not be shut", b.mend(), NONE);
        Tales.choice(b, 0, 1, 2, "b|a");
        due("21: but by another fact", b.mend(), 2);
        b.cut(3, true);
        due("21: it need not be open if it is CUT", b.mend(), 1);
    }

    private static void p22Sheet() {
        TaleBench b = new TaleBench();
        for (int s = 0; s < 4; s++) {
            for (int sort = 0; sort < 3; sort++) {
                due("22: sheet", b.sheet(s, sort, 30), 30);
                due("22: all 0", b.write(s, 29, 5), 0);
                due("22: all 0", b.write(s, 0, 5), 0);
                due("22: again", b.sheet(s, sort, 30), 30);
                due("22: all 0 again", b.write(s, 29, 5), 0);
                due("22: all 0 again", b.write(s, 0, 5), 0);
            }
        }
        due("22: an empty one", b.sheet(0, 0, 0), 0);
        due("22: is not MISSING", b.write(0, 0, 1), PLACE);
    }

    private static void p23Write() {
        TaleBench b = new TaleBench();
        int[][] narrowed = {
            {127, 128, 255, 256, -129, 70000, Integer.MIN_VALUE}, {127, -128, -1, 0, 127, 112, 0},
            {127, 32768, 65535, 65536, -32769, 70000, Integer.MAX_VALUE}, {127, -32768, -1, 0, 32767, 4464, -1},
            {127, 32768, 65536, -1010, -1002, Integer.MIN_VALUE, Integer.MAX_VALUE},
            {127, 32768, 65536, -1010, -1002, Integer.MIN_VALUE, Integer.MAX_VALUE},
        };
        for (int sort = 0; sort < 3; sort++) {
            b.sheet(sort, sort, 2);
            int was = 0;
            for (int n = 0; n < 7; n++) {
                due("23: what it was", b.write(sort, 1, narrowed[2 * sort][n]), was);
                was = narrowed[2 * sort + 1][n];
            }
            due("23: the last", b.write(sort, 1, 0), was);
            due("23: the other number", b.write(sort, 0, 0), 0);
        }
        due("23: a number like a finding is none", b.count(4), 0);
    }

    private static void p24Words() {
        TaleBench b = new TaleBench();
        b.scene(5, 3);
        b.sheet(1, 2, 4);
        b.write(1, 0, 99);
        b.write(1, 1, 100);
        b.write(1, 2, -1);
        b.write(1, 3, Integer.MAX_VALUE);
        due("24: no CHOICES, no numbers", b.words(5, 1, 2, Integer.MAX_VALUE), 0);
        b.choice(5, 1, 0);
        b.line(5, 1, 7, 3);
        due("24: the first", b.words(5, 1, 2, -1), 0);
        due("24: 99 stays", b.about(5, 1, 5), 99);
        due("24: the VOICE stays", b.about(5, 1, 6), 3);
        due("24: above 99", b.words(5, 1, 2, 0), 1);
        due("24: is 99", b.about(5, 1, 5), 99);
        due("24: below 0", b.words(5, 1, 2, 1), 1);
        due("24: is 0", b.about(5, 1, 5), 0);
        b.choice(5, 3, 0);
        due("24: two, one between them", b.words(5, 1, 2, 0), 2);
        due("24: the second", b.about(5, 3, 5), 99);
        due("24: none ahead", b.words(5, 1, 2, -2), PLACE);
        due("24: none behind", b.words(5, 1, 2, 1), PLACE);
        due("24: nothing is taken", b.about(5, 1, 5) * 100L + b.about(5, 3, 5), 9999);
        due("24: round the numbers' end", b.words(5, 1, 2, Integer.MAX_VALUE), PLACE);
        due("24: count(4)", b.count(4), 3);
        wordsOfSorts();
    }

    private static void wordsOfSorts() {
        TaleBench b = new TaleBench();
        b.scene(0, 0);
        b.choice(0, 0, 0);
        for (int sort = 0; sort < 3; sort++) {
            b.sheet(0, sort, 1);
            b.write(0, 0, 50 + sort);
            due("24: of sort " + sort, b.words(0, 0, sort, 0), 0);
            due("24: WORDS", b.about(0, 0, 5), 50 + sort);
        }
        b.sheet(0, 0, 1);
        b.write(0, 0, 306);
        due("24: narrowed", b.words(0, 0, 0, 0), 0);
        due("24: WORDS", b.about(0, 0, 5), 50);
    }

    private static void p25Sessions() {
        TaleBench b = new TaleBench();
        due("25: no lines", b.sessions(0, 1), 0);
        int[] lines = {30, 50, 0, 20, 80, 99, 1, 1};
        for (int n = 0; n < lines.length; n++) {
            b.scene(19 - n / 2, 0);
            b.choice(19 - n / 2, 5 - n % 2, 0);
            b.line(19 - n / 2, 5 - n % 2, lines[n], 3);
        }
        // By SCENES and CHOICES: 1 1 99 80 20 0 50 30.
        due("25: 100", b.sessions(3, 100), 4);
        due("25: 101", b.sessions(3, 101), 3);
        due("25: 99", b.sessions(3, 99), 5);
        due("25: 98", b.sessions(3, 98), NONE);
        due("25: 1000", b.sessions(3, 1000), 1);
        due("25: another VOICE", b.sessions(2, 1), 0);
        b.scene(0, 0);
        b.choice(0, 0, 0);
        b.line(0, 0, 2, 2);
        due("25: the first CHOICE of all", b.sessions(2, 2), 1);
        b.line(17, 5, 80, 0);
        due("25: one less", b.sessions(3, 98), NONE);
        b.line(17, 4, 99, 0);
        due("25: two less", b.sessions(3, 98), 2);
        due("25: VOICE 0", b.sessions(0, 99), 2);
        due("25: a line that is dropped", b.drop(17, 4) * 10L + b.sessions(0, 99), 11);
        due("25: a SCENE that is not there", b.scene(17, -1) * 10L + b.sessions(0, 99), 0);
    }

    private static void p26Tell() {
        TaleBench b = new TaleBench();
        for (int n = 1; n <= 30; n++) {
            due("26: tell", b.tell(n * 100000000), n);
        }
        due("26: 30 wait", b.tell(0), BAD);
        due("26: still 30", b.count(3), 30);
        due("26: play", b.play(), NONE);
        due("26: again", b.tell(-5), 1);
    }

    private static void p27Play() {
        TaleBench b = well();
        due("27: none", b.play(), 0);
        due("27: at THE BEGINNING", b.at(0), 0);
        for (int k : new int[] {0, 2, 3, 0}) {
            b.tell(k);
        }
        due("27: till the first that is not OPEN", b.play(), 3);
        due("27: the hole", b.at(0) * 1000L + b.at(1), 5002);
        due("27: none wait", b.count(3), 0);
        for (int k : new int[] {-1, 6, Integer.MIN_VALUE, Integer.MAX_VALUE, 5, 1}) {
            b.tell(0);
            b.tell(k);
            b.tell(0);
            due("27: no CHOICE, not there, not OPEN", b.play(), k == 1 ? 3 : 1);
            b.play();
        }
        for (int n = 0; n < 30; n++) {
            b.tell(n % 3 == 2 ? 1 : 0);
        }
        b.scene(4, 0);
        b.choice(4, 0, 0);
        b.gives(4, 0, 0, 1);
        due("27: round and round", b.play(), 30);
        b.tell(0);
        b.cut(0, true);
        due("27: no BEGINNING", b.play(), NONE);
        due("27: none wait all the same", b.count(3), 0);
        due("27: where it was stays", b.at(0), 4);
        b.cut(0, false);
        b.cut(1, true);
        b.tell(0);
        due("27: TO is CUT", b.play(), 0);
    }

    private static void p28At() {
        TaleBench b = new TaleBench();
        due("28: not yet", b.at(0), NONE);
        due("28: NONE ahead of BAD", b.at(2), NONE);
        due("28: no BEGINNING", b.play(), NONE);
        due("28: still not yet", b.at(1), NONE);
        b.scene(0, 0);
        b.start(255);
        due("28: play", b.play(), 0);
        due("28: SCENE", b.at(0), 0);
        due("28: FACTS", b.at(1), 255);
        b.start(0);
        b.scene(0, -1);
        due("28: as it was played", b.at(1), 255);
    }

    private static void p29Keep() {
        TaleBench b = Tales.full();
        due("29: keep(1)", b.keep(1), 1);
        due("29: keep(0)", b.keep(0), 1);
        b.line(0, 0, 1, 1);
        b.gives(0, 0, 0, 0);
        b.start(77);
        b.loss(2, 1);
        b.scene(4, -1);
        for (int which = 0; which < 2; which++) {
            due("29: back", b.back(which), 1);
            due("29: a CHOICE of its own", b.about(0, 0, 5) * 100L + b.about(0, 0, 3), 4001);
            due("29: a SCENE of its own", b.of(2, 4) * 100L + b.of(4, 0), 604);
            due("29: THE START", b.count(5), 8);
        }
    }

    private static void p30Back() {
        TaleBench b = Tales.full();
        due("30: THE OTHER", b.back(1), 1);
        due("30: its CHOICES", b.of(0, 5) * 10L + b.of(2, 5), 10);
        due("30: of them", b.about(0, 0, 3) * 10000L + b.about(0, 0, 4) * 100L + b.about(0, 0, 5), 10840);
        due("30: its states", b.states(0), 2);
        due("30: THE BASE", b.back(0), 1);
        due("30: no CHOICES", b.count(1), 0);
        due("30: its states", b.states(0), 1);
        b.start(5);
        b.scene(0, -1);
        due("30: again", b.back(0), 1);
        due("30: what is kept stays", b.count(5) * 10L + b.count(0), 85);
        due("30: CUT all the same", b.of(4, 1), 1);
        due("30: what waits waits", b.count(3), 2);
        TaleBench none = new TaleBench();
        none.start(3);
        none.keep(0);
        due("30: none is kept", none.back(1), NOTHING);
        due("30: count(4)", none.count(4), 1);
        due("30: nothing has changed", none.count(5), 3);
    }

    private static void p31Melt() {
        TaleBench b = Tales.full();
        // THE OTHER has CHOICE (0, 0), as THE TALE has.
        due("31: all is so already", b.melt(), 0);
        b.back(0);
        // The tape has a 'd'.
        b.choice(0, 1, 3);
        b.start(9);
        due("31: states before", b.states(0), 2);
        due("31: one comes", b.melt(), 1);
        due("31: both hands' CHOICES", b.of(0, 5), 3);
        due("31: all of it", b.about(0, 0, 3) * 100L + b.about(0, 0, 5), 140);
        due("31: ours stays", b.count(5), 9);
        due("31: states anew", b.states(0), 3);
        meltOfScenes();
        meltOfNeeds();
        TaleBench none = new TaleBench();
        due("31: none is kept", none.melt(), NOTHING);
        none.keep(0);
        due("31: THE OTHER is not", none.melt(), NOTHING);
        due("31: count(4)", none.count(4), 2);
        TaleBench half = new TaleBench();
        half.keep(1);
        due("31: THE BASE is not", half.melt(), NOTHING);
        half.keep(0);
        due("31: both are", half.melt(), 0);
    }

    private static void meltOfScenes() {
        TaleBench b = new TaleBench();
        b.scene(0, 0);
        b.scene(1, 0);
        b.choice(1, 0, 0);
        b.keep(0);
        b.choice(1, 4, 0);
        b.start(9);
        b.scene(2, 2);
        b.loss(2, 7);
        b.choice(2, 0, 1);
        b.keep(1);
        b.back(0);
        b.scene(1, -1);
        due("31: four come", b.melt(), 4);
        due("31: one of them not to stay", b.of(1, 0), -1);
        due("31: no CHOICE without a SCENE", b.count(1), 1);
        due("31: it comes again, and goes again", b.melt(), 1);
        b.scene(1, 0);
        due("31: nor is it there in secret", b.of(1, 5), 0);
        due("31: SET", b.of(2, 4), 7);
        b.back(1);
        b.keep(0);
        b.scene(2, -1);
        b.keep(1);
        b.back(0);
        b.choice(2, 5, 0);
        due("31: SCENE and CHOICE go", b.melt(), 2);
        due("31: ours goes with them", b.count(1), 2);
        b.keep(0);
        b.scene(0, -1);
        b.keep(1);
        b.back(0);
        b.choice(0, 0, 0);
        due("31: the first SCENE goes", b.melt(), 1);
        due("31: and ours with it", b.count(1), 2);
    }

    private static void meltOfNeeds() {
        TaleBench b = new TaleBench();
        Tales.scene(b, 0, 1, "a&b");
        Tales.scene(b, 1, 4, "1");
        Tales.choice(b, 0, 0, 1, "c|!c");
        b.keep(0);
        Tales.scene(b, 0, 1, "!(!b|!a)");
        b.scene(1, 4);
        b.choice(0, 0, 1);
        b.keep(1);
        b.back(0);
        Tales.scene(b, 0, 1, "a");
        due("31: the same NEED is no change", b.melt(), 0);
        due("31: ours stays", b.of(0, 3), 128);
        Tales.scene(b, 0, 1, "b");
        b.keep(1);
        Tales.scene(b, 0, 1, "a");
        due("31: three NEEDS", b.melt(), CLASHED);
        due("31: ours stays", b.of(0, 2), 1);
        Tales.scene(b, 0, 1, "b|0");
        due("31: the same change by both", b.melt(), 0);
        Tales.scene(b, 0, 1, "b&a");
        due("31: theirs alone", b.melt(), 1);
        due("31: theirs", b.of(0, 2), 2);
        for (String rest : new String[] {"&!g&!h", "&g&!h", "&!g&h", "&g&h"}) {
            TaleBench c = new TaleBench();
            Tales.scene(c, 0, 1, "0");
            c.keep(0);
            Tales.scene(c, 0, 1, "a" + rest);
            c.keep(1);
            Tales.scene(c, 0, 1, "b" + rest);
            due("31: " + rest, c.clash(0), 0);
            due("31: " + rest, c.back(0) * 10L + c.melt(), 11);
        }
    }

    private static void p32Clash() {
        TaleBench b = new TaleBench();
        for (int s = 0; s < 20; s++) {
            b.scene(s, 0);
            b.choice(s, 5, 0);
        }
        b.keep(0);
        b.start(1);
        b.line(0, 5, 1, 0);
        b.gives(19, 5, 1, 0);
        b.scene(7, 1);
        b.scene(8, 2);
        b.loss(8, 1);
        b.line(3, 5, 0, 1);
        b.choice(4, 0, 4);
        b.keep(1);
        due("32: none yet", b.clash(0), NONE);
        b.start(2);
        b.line(0, 5, 2, 0);
        b.gives(19, 5, 0, 1);
        b.scene(7, 2);
        b.loss(8, 2);
        b.line(3, 5, 0, 2);
        b.choice(4, 0, 5);
        int[] want = {6, 27, 29, 49, 56, 139, 140, NONE};
        for (int i = 0; i < want.length; i++) {
            due("32: clash(" + i + ")", b.clash(i), want[i]);
        }
        for (int i : new int[] {-1, 141, Integer.MIN_VALUE, Integer.MAX_VALUE}) {
            due("32: clash(" + i + ")", b.clash(i), NONE);
        }
        due("32: melt", b.melt(), CLASHED);
        b.start(0);
        due("32: as things are", b.clash(6), NONE);
        b.scene(19, -1);
        due("32: not there is a way to differ", b.clash(5), 139);
        b.back(1);
        due("32: no more", b.clash(0), NONE);
        TaleBench none = new TaleBench();
        none.keep(1);
        due("32: THE BASE is not kept", none.clash(-1), NOTHING);
        due("32: count(4)", none.count(4), 1);
    }

    private static void p33Count() {
        TaleBench b = Tales.full();
        int[] want = {5, 3, 1, 2, 0, 8};
        for (int what = 0; what < 6; what++) {
            due("33: count(" + what + ")", b.count(what), want[what]);
        }
        b.loss(9, 0);
        b.loss(0, 0);
        b.write(0, 3, 0);
        b.sheet(0, 0, -1);
        due("33: each finding of the host", b.count(4), 4);
        b.loss(20, 0);
        b.way(9);
        b.mend();
        b.line(0, 0, 41, 2);
        b.melt();
        Tales.scene(b, 0, 1, "i");
        b.count(6);
        due("33: no other finding", b.count(4), 4);
    }

    public static void main(String[] args) {
        p1NewObject();
        p2Feed();
        p3Scene();
        p4Loss();
        p5Choice();
        p6Gives();
        p7Line();
        p8Drop();
        p9Start();
        p10Of();
        p11About();
        p12States();
        p13Reached();
        p14Live();
        p15Open();
        p16Trap();
        p17Way();
        p18Step();
        p19Ways();
        p20Cut();
        p21Mend();
        p22Sheet();
        p23Write();
        p24Words();
        p25Sessions();
        p26Tell();
        p27Play();
        p28At();
        p29Keep();
        p30Back();
        p31Melt();
        p32Clash();
        p33Count();
        Check.end("promises");
    }
}
