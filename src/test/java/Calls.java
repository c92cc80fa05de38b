/** The calls of the document by their names, on the class and on the oracle. */
final class Calls {
    static final String[] NAMES = {
        "feed", "scene", "loss", "choice", "gives", "line", "drop", "start", "of", "about", "states", "reached", "live",
        "open", "trap", "way", "step", "ways", "cut", "mend", "sheet", "write", "words", "sessions", "tell", "play",
        "at", "keep", "back", "melt", "clash", "count"
    };

    private Calls() {
    }

    private static int arg(long[] a, int i) {
        return a.length > i ? (int) a[i] : 0;
    }

    static long onBench(TaleBench bench, String name, long... a) {
        int x = arg(a, 0);
        int y = arg(a, 1);
        int z = arg(a, 2);
        int u = arg(a, 3);
        return switch (name) {
            case "feed" -> bench.feed(a[0], y);
            case "scene" -> bench.scene(x, y);
            case "loss" -> bench.loss(x, y);
            case "choice" -> bench.choice(x, y, z);
            case "gives" -> bench.gives(x, y, z, u);
            case "line" -> bench.line(x, y, z, u);
            case "drop" -> bench.drop(x, y);
            case "start" -> bench.start(x);
            case "of" -> bench.of(x, y);
            case "about" -> bench.about(x, y, z);
            case "states" -> bench.states(x);
            case "reached" -> bench.reached(x);
            case "live" -> bench.live(x);
            case "open" -> bench.open(x, y);
            case "trap" -> bench.trap(x);
            case "way" -> bench.way(x);
            case "step" -> bench.step(x, y);
            case "ways" -> bench.ways(x);
            case "cut" -> bench.cut(x, y != 0);
            case "mend" -> bench.mend();
            case "sheet" -> bench.sheet(x, y, z);
            case "write" -> bench.write(x, y, z);
            case "words" -> bench.words(x, y, z, u);
            case "sessions" -> bench.sessions(x, y);
            case "tell" -> bench.tell(x);
            case "play" -> bench.play();
            case "at" -> bench.at(x);
            case "keep" -> bench.keep(x);
            case "back" -> bench.back(x);
            case "melt" -> bench.melt();
            case "clash" -> bench.clash(x);
            case "count" -> bench.count(x);
            default -> throw new IllegalArgumentException(name);
        };
    }

    static long onOracle(Oracle oracle, String name, long... a) {
        int x = arg(a, 0);
        int y = arg(a, 1);
        int z = arg(a, 2);
        int u = arg(a, 3);
        return switch (name) {
            case "feed" -> oracle.feed(a[0], y);
            case "scene" -> oracle.scene(x, y);
            case "loss" -> oracle.loss(x, y);
            case "choice" -> oracle.choice(x, y, z);
            case "gives" -> oracle.gives(x, y, z, u);
            case "line" -> oracle.line(x, y, z, u);
            case "drop" -> oracle.drop(x, y);
            case "start" -> oracle.start(x);
            case "of" -> oracle.of(x, y);
            case "about" -> oracle.about(x, y, z);
            case "states" -> oracle.states(x);
            case "reached" -> oracle.reached(x);
            case "live" -> oracle.live(x);
            case "open" -> oracle.open(x, y);
            case "trap" -> oracle.trap(x);
            case "way" -> oracle.way(x);
            case "step" -> oracle.step(x, y);
            case "ways" -> oracle.ways(x);
            case "cut" -> oracle.cut(x, y != 0);
            case "mend" -> oracle.mend();
            case "sheet" -> oracle.sheet(x, y, z);
            case "write" -> oracle.write(x, y, z);
            case "words" -> oracle.words(x, y, z, u);
            case "sessions" -> oracle.sessions(x, y);
            case "tell" -> oracle.tell(x);
            case "play" -> oracle.play();
            case "at" -> oracle.at(x);
            case "keep" -> oracle.keep(x);
            case "back" -> oracle.back(x);
            case "melt" -> oracle.melt();
            case "clash" -> oracle.clash(x);
            case "count" -> oracle.count(x);
            default -> throw new IllegalArgumentException(name);
        };
    }
}
