import java.util.Random;

/** Random runs of calls, the same at each time, on the class and on the oracle at once. */
public final class RandomRunsTest {
    /** How often each call is made, in the order of Calls.NAMES; texts are fed in their own way. */
    private static final int[][] WEIGHTS = {
        {1, 8, 3, 14, 8, 4, 1, 2, 3, 3, 6, 3, 3, 3, 4, 3, 5, 3, 2, 2, 1, 2, 2, 2, 8, 2, 2, 1, 1, 1, 1, 2},
        {1, 3, 1, 5, 3, 3, 2, 1, 2, 2, 1, 0, 0, 0, 0, 0, 0, 0, 1, 0, 1, 1, 2, 1, 1, 1, 1, 4, 4, 6, 5, 2},
        {0, 2, 1, 5, 3, 0, 1, 2, 0, 0, 3, 1, 1, 2, 3, 1, 3, 1, 6, 6, 0, 0, 0, 0, 3, 1, 1, 0, 0, 0, 0, 0},
        {0, 0, 0, 1, 2, 0, 1, 1, 0, 0, 5, 2, 3, 3, 6, 3, 9, 4, 3, 4, 0, 0, 0, 0, 9, 2, 2, 0, 0, 0, 0, 0},
        {2, 2, 2, 2, 2, 2, 2, 2, 2, 2, 2, 2, 2, 2, 2, 2, 2, 2, 2, 2, 3, 6, 6, 3, 2, 2, 2, 2, 2, 2, 2, 2},
    };

    private final Random random;
    private final TaleBench bench = new TaleBench();
    private final Oracle oracle = new Oracle();
    private final StringBuilder told = new StringBuilder();
    private final int scenes;
    private final int facts;
    private final int slips;

    private RandomRunsTest(long seed) {
        random = new Random(seed);
        scenes = random.nextInt(4) == 0 ? 1 + random.nextInt(20) : 3 + random.nextInt(6);
        facts = 1 + random.nextInt(8);
        slips = random.nextInt(3) == 0 ? 6 : 40;
    }

    private boolean slips() {
        return random.nextInt(slips) == 0;
    }

    /** Mostly 0 .. most - 1; now and then what lies at the edges, or far out. */
    private int number(int most, int edge) {
        if (!slips()) {
            return random.nextInt(Math.max(1, most));
        }
        int[] odd = {-1, edge, edge - 1, edge + 1, Integer.MIN_VALUE, Integer.MAX_VALUE, random.nextInt(), 0};
        return odd[random.nextInt(odd.length)];
    }

    private int aScene() {
        return number(scenes, 20);
    }

    private int aChoice() {
        return number(random.nextInt(3) == 0 ? 6 : 3, 6);
    }

    private int aSet() {
        int set = random.nextInt(1 << facts) & random.nextInt(1 << facts);
        return slips() ? number(256, 256) : set;
    }

    private String text(int depth) {
        int pick = random.nextInt(depth > 5 ? 4 : 11);
        if (pick < 3) {
            return "" + (char) ('a' + random.nextInt(facts));
        }
        if (pick == 3) {
            return "" + random.nextInt(2);
        }
        if (pick < 6) {
            return "!" + closed(depth);
        }
        return closed(depth) + (pick < 9 ? "&" : "|") + closed(depth);
    }

    private String closed(int depth) {
        return random.nextInt(3) == 0 ? "(" + text(depth + 1) + ")" : text(depth + 2);
    }

    private String someText() {
        StringBuilder b = new StringBuilder(text(random.nextInt(4)));
        if (random.nextInt(12) == 0) {
            for (int n = random.nextInt(14); n >= 0; n--) {
                b.insert(0, random.nextBoolean() ? "!" : "(");
                if (b.charAt(0) == '(' && random.nextInt(12) != 0) {
                    b.append(')');
                }
            }
        }
        for (int n = slips() ? 1 + random.nextInt(3) : 0; n > 0; n--) {
            int at = random.nextInt(b.length() + 1);
            String sign = "" + "abh01!()&|i A2\0\u00ff".charAt(random.nextInt(16));
            b.replace(at, Math.min(b.length(), at + random.nextInt(2)), sign);
        }
        if (random.nextInt(25) == 0) {
            b.setLength(random.nextInt(b.length() + 1));
        }
        return b.toString();
    }

    private void feedText(String text) {
        for (int i = 0; i < text.length(); i += 8) {
            int n = Math.min(8, text.length() - i);
            long rest = random.nextBoolean() ? 0 : random.nextLong();
            call("feed", Tales.bytes(text, i, n, rest), n);
        }
    }

    private void call(String name, long... a) {
        long got = Calls.onBench(bench, name, a);
        long want = Calls.onOracle(oracle, name, a);
        told.append(name).append(java.util.Arrays.toString(a)).append(" = ").append(want).append('\n');
        if (Check.due(told.length() > 30000 ? name : name + java.util.Arrays.toString(a), got, want)) {
            return;
        }
        System.out.println("after:\n" + told);
        Check.end("random runs");
    }

    private void next(int[] weights) {
        int sum = 0;
        for (int w : weights) {
            sum += w;
        }
        int pick = random.nextInt(sum);
        int which = 0;
        while (pick >= weights[which]) {
            pick -= weights[which];
            which++;
        }
        make(Calls.NAMES[which]);
    }

    private void make(String name) {
        int s = aScene();
        int k = aChoice();
        switch (name) {
            case "feed" -> call(name, random.nextLong(), number(9, 9));
            case "scene" -> {
                if (random.nextBoolean()) {
                    feedText(someText());
                }
                call(name, s, random.nextInt(s == 0 ? 60 : 9) == 0 ? -1 : number(s == 0 ? 3 : 5, 5));
            }
            case "choice" -> {
                if (random.nextBoolean()) {
                    feedText(someText());
                }
                call(name, s, k, aScene());
            }
            case "loss" -> call(name, s, aSet());
            case "gives" -> {
                int give = aSet();
                call(name, s, k, give, slips() ? aSet() : aSet() & ~give);
            }
            case "line" -> call(name, s, k, number(random.nextBoolean() ? 100 : 9, 100), number(2, 4));
            case "drop", "open" -> call(name, s, k);
            case "start" -> call(name, aSet());
            case "of" -> call(name, s, number(6, 6));
            case "about" -> call(name, s, k, number(7, 7));
            case "states" -> call(name, number(5, 5));
            case "reached", "live", "way" -> call(name, s);
            case "trap" -> call(name, number(4, 120));
            case "step" -> call(name, s, number(4, 9));
            case "ways" -> call(name, number(21, 21));
            case "cut" -> call(name, s, random.nextInt(s == 0 ? 12 : 2) == 0 ? 1 : 0);
            case "sheet" -> call(name, number(4, 4), number(3, 3), slips() ? -random.nextInt(3) : number(31, 31));
            case "write" -> call(name, number(4, 4), number(12, 30), random.nextInt(4) == 0 ? random.nextInt()
                : random.nextInt(4) == 0 ? -1009 - random.nextInt(6) : random.nextInt(160) - 30);
            case "words" -> call(name, s, number(4, 4), number(3, 3), random.nextInt(14) - 5);
            case "sessions" -> call(name, number(2, 4), 1 + number(200, 1000));
            case "tell" -> call(name, number(3, 6));
            case "at", "keep", "back" -> call(name, number(2, 2));
            case "clash" -> call(name, number(4, 141));
            case "count" -> call(name, number(6, 6));
            default -> call(name);
        }
    }

    /** Some tale first, then all kinds of calls. */
    private void run() {
        if (random.nextInt(3) == 0) {
            roughTale();
        } else {
            fullTale();
        }
        int[] weights = WEIGHTS[random.nextInt(WEIGHTS.length)];
        for (int n = 60 + random.nextInt(180); n > 0; n--) {
            next(weights);
        }
    }

    private String smallText() {
        String letter = "" + (char) ('a' + random.nextInt(facts));
        return switch (random.nextInt(5)) {
            case 0 -> "!" + letter;
            case 1 -> letter + "|" + (char) ('a' + random.nextInt(facts));
            case 2 -> text(3);
            default -> letter;
        };
    }

    /** A tale in which one gets far: few endings, many choices, small needs, facts that come and go. */
    private void fullTale() {
        for (int s = 0; s < scenes; s++) {
            int kind = s == 0 ? 0 : s >= scenes - 2 ? 3 + random.nextInt(2) : random.nextInt(3);
            if (kind != 0 && kind != 3 && random.nextInt(3) != 0) {
                feedText(smallText());
            }
            call("scene", s, kind);
            if (kind == 2) {
                call("loss", s, random.nextInt(1 << facts));
            }
        }
        for (int s = 0; s < scenes; s++) {
            for (int k = random.nextInt(2); k < 6; k += 1 + random.nextInt(3)) {
                if (random.nextInt(3) == 0) {
                    feedText(smallText());
                }
                call("choice", s, k, random.nextInt(scenes));
                int give = random.nextInt(3) == 0 ? 0 : 1 << random.nextInt(facts);
                int take = random.nextInt(3) == 0 ? random.nextInt(1 << facts) : 0;
                call("gives", s, k, give, take & ~give);
                if (random.nextBoolean()) {
                    call("line", s, k, random.nextInt(100), random.nextInt(2));
                }
            }
        }
        if (random.nextBoolean()) {
            call("keep", 0);
            call("keep", 1);
        }
    }

    private void roughTale() {
        for (int s = 0; s < scenes; s++) {
            if (random.nextInt(8) != 0) {
                if (random.nextInt(3) == 0) {
                    feedText(someText());
                }
                call("scene", s, s > 0 && random.nextInt(3) != 0 ? random.nextInt(5) : random.nextInt(3));
            }
        }
        for (int n = random.nextInt(3 * scenes + 1); n > 0; n--) {
            make("choice");
            make("gives");
        }
    }

    public static void main(String[] args) {
        int runs = args.length > 0 ? Integer.parseInt(args[0]) : 4000;
        long from = args.length > 1 ? Long.parseLong(args[1]) : 1;
        for (int i = 0; i < runs; i++) {
            new RandomRunsTest(from + i).run();
        }
        Check.end("random runs");
    }
}
