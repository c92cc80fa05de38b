import java.util.Arrays;

/**
 * Each call with every mixture of arguments at and behind the edges, on several objects: the answer is the oracle's, so
 * that what is wrong in several ways is asked in the right order, and behind it all is as it is with the oracle.
 */
public final class GridTest {
    private static final long LEAST = Integer.MIN_VALUE;
    private static final long MOST = Integer.MAX_VALUE;
    private static final long[] SCENES = {LEAST, -1, 0, 1, 2, 3, 4, 9, 19, 20, MOST};
    private static final long[] CHOICES = {LEAST, -1, 0, 1, 3, 5, 6, MOST};
    private static final long[] SETS = {LEAST, -1, 0, 6, 255, 256, MOST};
    private static final long[] SHEETS = {LEAST, -1, 0, 1, 2, 3, 4, MOST};
    private static final long[] SORTS = {-1, 0, 1, 2, 3};
    private static final long[] INDEXES = {LEAST, -3, -1, 0, 1, 2, 3, 29, 30, MOST};
    private static final long[] FEW = {LEAST, -1, 0, 1, 2, 3, 4, 5, 6, 7, MOST};

    private static final World[] WORLDS = {World.BLANK, World.FULL, World.BRIM};

    private GridTest() {
    }

    /** All mixtures of one argument out of each row. */
    private static void grid(String name, long[]... rows) {
        long[] args = new long[rows.length];
        int[] at = new int[rows.length];
        boolean more = true;
        while (more) {
            for (int i = 0; i < rows.length; i++) {
                args[i] = rows[i][at[i]];
            }
            for (World world : WORLDS) {
                compare(world, name, args.clone());
            }
            more = false;
            for (int i = rows.length - 1; i >= 0 && !more; i--) {
                at[i] = (at[i] + 1) % rows[i].length;
                more = at[i] != 0;
            }
        }
    }

    private static void compare(World world, String name, long[] args) {
        Edges.isAt(world + ": " + name + Arrays.toString(args) + ": ");
        long want = Calls.onOracle(world.made().oracle(), name, args);
        // A number that write() found may look like a finding.
        if (want < -1000 && !name.equals("write")) {
            Edges.refusedIn(world, (int) want, name, args);
            return;
        }
        for (Look look : Look.values()) {
            Run run = world.made();
            Oracle oracle = run.oracle();
            Calls.onOracle(oracle, name, args);
            run.is(want, name, args).is(oracle.count(2), "count", 2).is(oracle.count(4), "count", 4);
            String shown = look.at(run);
            if (!Check.due(Edges.place(), shown, look.at((call, row) -> Calls.onOracle(oracle, call, row)))) {
                System.out.println("after:\n" + run.told());
            }
        }
    }

    public static void main(String[] args) {
        grid("feed", new long[] {97, -1}, new long[] {LEAST, -1, 0, 1, 8, 9, MOST});
        grid("scene", SCENES, new long[] {LEAST, -2, -1, 0, 1, 2, 3, 4, 5, MOST});
        grid("loss", SCENES, SETS);
        grid("choice", SCENES, CHOICES, SCENES);
        grid("gives", new long[] {-1, 0, 2, 9, 20}, new long[] {-1, 0, 1, 6}, SETS, SETS);
        grid("line", new long[] {-1, 0, 2, 9, 20}, new long[] {-1, 0, 1, 6}, new long[] {-1, 0, 99, 100},
            new long[] {-1, 0, 3, 4});
        grid("drop", SCENES, CHOICES);
        grid("start", SETS);
        grid("of", SCENES, FEW);
        grid("about", SCENES, CHOICES, FEW);
        grid("states", FEW);
        grid("reached", SCENES);
        grid("live", SCENES);
        grid("open", SCENES, CHOICES);
        grid("trap", INDEXES);
        grid("way", SCENES);
        grid("step", SCENES, INDEXES);
        grid("ways", new long[] {LEAST, -1, 0, 1, 2, 20, 21, MOST});
        grid("cut", SCENES, new long[] {0, 1});
        grid("mend");
        grid("sheet", SHEETS, SORTS, new long[] {LEAST, -1, 0, 1, 30, 31, MOST});
        grid("write", SHEETS, INDEXES, new long[] {LEAST, -129, 0, 128, 32768, MOST});
        grid("words", new long[] {-1, 0, 1, 2, 9, 20}, SHEETS, SORTS, INDEXES);
        grid("sessions", FEW, new long[] {LEAST, 0, 1, 40, 41, 80, 81, 1000, 1001, MOST});
        grid("tell", FEW);
        grid("play");
        grid("at", FEW);
        grid("keep", FEW);
        grid("back", FEW);
        grid("melt");
        grid("clash", new long[] {LEAST, -1, 0, 1, 140, 141, MOST});
        grid("count", FEW);
        Check.end("grid");
    }
}
