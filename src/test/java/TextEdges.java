/** The sentences under 'Terms' that tell of FACTS, of NEEDS and of their TEXTS. */
final class TextEdges implements Findings {
    private TextEdges() {
    }

    static void test() {
        facts();
        needs();
        texts();
        wrongTexts();
    }

    private static void facts() {
        Edges.says(TERMS, "FACTS are 0 to 7, told as letters a to h, sets of them as numbers (bit f for fact f)");
        for (int f = 0; f < 8; f++) {
            new Run().does("scene", 0, 0).choice(0, 0, 0, "" + (char) ('a' + f)).is(1 << f, "about", 0, 0, 1)
                .does("start", 1 << f).is(1, "open", 0, 0).does("start", 255 - (1 << f)).is(0, "open", 0, 0)
                .does("start", 255).is(1, "open", 0, 0).does("start", 0).is(0, "open", 0, 0);
        }
        for (String none : new String[] {"`", "i", "A", "H"}) {
            wrong(none, 0);
        }
    }

    private static void needs() {
        Edges.says(TERMS, "A NEED is a rule for sets of FACTS");
        Run run = null;
        for (int set = 0; set < 256; set++) {
            if (set % 128 == 0) {
                run = new Run().does("scene", 0, 0).choice(0, 0, 0, "a&!h|c&(d|!e)&f|g&b");
            }
            boolean[] has = new boolean[8];
            for (int f = 0; f < 8; f++) {
                has[f] = (set >> f & 1) != 0;
            }
            boolean holds = has[0] && !has[7] || has[2] && (has[3] || !has[4]) && has[5] || has[6] && has[1];
            run.does("start", set).is(holds ? 1 : 0, "open", 0, 0);
        }
        Edges.says(TERMS, "a NEED READS a FACT if for some set it holds just with it, or just without it");
        right("a&b|a&!b", 1, 128);
        right("(h|b)&(h|!b)", 128, 128);
        right("a|!a", 0, 256);
        right("h&!h", 0, 0);
        right("a&0|b&1", 2, 128);
        right("!g", 64, 128);
        right("a&b&c&d&e&f&g&h", 255, 1);
        right("!(a&b&c&d&e&f&g&h)", 255, 255);
        right("a&b&c&d&e&f&(g&h|g&!h)", 127, 2);
        Edges.says(TERMS, "The NEED of nothing holds always");
        right("", 0, 256);
        new Run().does("scene", 0, 0).is(0, "of", 0, 2).is(256, "of", 0, 3)
            .does("scene", 1, 1).does("choice", 0, 0, 1).is(1, "open", 0, 0).does("start", 255).is(1, "open", 0, 0);
    }

    /** A text that is right: which FACTS it READS, and for how many sets it holds. */
    private static void right(String text, int reads, int holds) {
        for (int kind : new int[] {1, 2, 4}) {
            new Run().text(text).is(-1, "scene", 0, kind).is(reads, "of", 0, 2).is(holds, "of", 0, 3)
                .text(text).is(0, "choice", 0, 5, 19).is(reads, "about", 0, 5, 1).is(holds, "about", 0, 5, 2);
        }
    }

    private static void wrong(String text, int place) {
        for (int kind : new int[] {1, 2, 4}) {
            new Run().text(text).is(WRONG - place, "scene", 0, kind).is(-1, "of", 0, 0).is(0, "count", 2)
                .does("scene", 0, 0).text(text).is(WRONG - place, "choice", 0, 5, 0).is(0, "of", 0, 5)
                .is(0, "count", 2);
        }
    }

    private static void texts() {
        Edges.says(TERMS, "A TEXT of a NEED: EITHER: BOTH { | BOTH }");
        right("a|b", 3, 192);
        right("a|b|c", 7, 224);
        right("a|b|c|d|e|f|g|h", 255, 255);
        right("0|0|0", 0, 0);
        wrong("|a", 0);
        wrong("a|", 2);
        wrong("a||b", 2);
        wrong("a|&b", 2);
        wrong("a|)", 2);
        Edges.says(TERMS, "BOTH: ONE { & ONE }");
        right("a&b", 3, 64);
        right("a&b&c", 7, 32);
        right("a&b|c", 7, 160);
        right("c|a&b", 7, 160);
        right("a&b|c&d", 15, 112);
        wrong("&a", 0);
        wrong("a&", 2);
        wrong("a&&b", 2);
        wrong("a&|b", 2);
        Edges.says(TERMS, "ONE: a letter a to h | ! ONE | ( EITHER ) | 0 | 1 (never, always)");
        for (int f = 0; f < 8; f++) {
            right("" + (char) ('a' + f), 1 << f, 128);
            right("!" + (char) ('a' + f), 1 << f, 128);
        }
        right("!!h", 128, 128);
        right("(h)", 128, 128);
        right("(a|b)", 3, 192);
        right("0", 0, 0);
        right("1", 0, 256);
        right("!0", 0, 256);
        right("!1", 0, 0);
        right("!(1)", 0, 0);
        wrong("2", 0);
        wrong("/", 0);
        wrong("!", 1);
        wrong("()", 1);
        wrong("!&a", 1);
        Edges.says(TERMS, "It holds as its signs say (! not, & and, | or)");
        right("!a&b", 3, 64);
        right("!(a&b)", 3, 192);
        right("!a|b", 3, 192);
        right("!(a|b)", 3, 64);
        right("(a|b)&c", 7, 96);
        right("a&(b|c)", 7, 96);
        right("!!!a&b|!c&(d|!(e&f))", 63, 148);
    }

    private static void wrongTexts() {
        Edges.says(TERMS, "WRONG is the first byte that can't stand there (also a ( or ! that stands in 12 others "
            + "already: ( and ! count alike), the 61st byte ahead of all; the length, if the text ends too soon");
        firstByte();
        twelveOthers();
        longTexts();
        String[] open = {"!", "(", "(a", "(a&", "a|", "((a)", "!(", "!!!!!!!!!!!!", "(a|(b&!", "a&(b"};
        for (String text : open) {
            wrong(text, text.length());
        }
    }

    private static void firstByte() {
        for (char sign : "i`A29/)&| *\0\n\u007f\u0080\u00e1\u00ff".toCharArray()) {
            wrong("" + sign, 0);
            wrong("a&" + sign, 2);
            wrong("a|" + sign + "i", 2);
            wrong("(" + sign, 1);
            wrong("!" + sign + "a", 1);
        }
        for (char sign : "iah01!(*\0\u00ff".toCharArray()) {
            wrong("a" + sign, 1);
            wrong("(b)" + sign, 3);
            wrong("(b" + sign, 2);
            wrong("1" + sign + "&", 1);
        }
        wrong("a)", 1);
        wrong("(a))", 3);
        wrong("a)&(", 1);
    }

    private static void twelveOthers() {
        String not = "!".repeat(12);
        String in = "(".repeat(12);
        String out = ")".repeat(12);
        String mixed = "!(".repeat(6);
        right(not + "a", 1, 128);
        right(not.substring(1) + "a", 1, 128);
        right(in + "a" + out, 1, 128);
        right(mixed + "a&b" + out.substring(6), 3, 64);
        right("(".repeat(11) + "!a&!b" + ")".repeat(11), 3, 64);
        right(not + "a&" + not + "b", 3, 64);
        right(in + "a" + out + "&" + in + "b" + out, 3, 64);
        wrong("!" + not + "a", 12);
        wrong(not + "(a)", 12);
        wrong("(" + in + "a" + out + ")", 12);
        wrong(in + "!a" + out, 12);
        wrong(in + "a&!b" + out, 14);
        wrong(in + "a|(b)" + out, 14);
        wrong(mixed + "!a" + out, 12);
        wrong(mixed + "(a" + out, 12);
        wrong("a&!" + not + "a", 14);
        wrong("(".repeat(11) + "!(a)" + ")".repeat(11), 12);
        wrong(in + "a" + out + "&(" + in + "b" + out + ")", 38);
    }

    private static void longTexts() {
        String sixty = "a|".repeat(29) + "!b";
        right(sixty, 3, 192);
        right("a|".repeat(29) + "b", 3, 192);
        wrong(sixty + "c", 60);
        wrong("i" + sixty, 60);
        wrong("a|".repeat(30), 60);
        wrong("a|".repeat(29) + "(", 59);
        wrong("i" + "a".repeat(59), 0);
        wrong("!".repeat(61), 60);
        wrong("!".repeat(60), 12);
        wrong("a|".repeat(50), 60);
        wrong("\u00ff".repeat(100), 60);
    }
}
