import java.io.IOException;
import java.nio.file.Files;
import java.nio.file.Path;
import java.util.LinkedHashSet;
import java.util.Set;

/** Which sentence of the document is being tested, and the tests of calls that are refused. */
final class Edges implements Findings {
    private static final Set<String> tested = new LinkedHashSet<>();
    private static String place = "";

    private Edges() {
    }

    /** What follows would fail if this sentence were broken. */
    static void says(int promise, String sentence) {
        tested.add(promise + " " + sentence);
        isAt((promise == TERMS ? "terms" : promise) + ", '" + sentence + "': ");
    }

    /** What is told ahead of an answer that is not the one that is due. */
    static void isAt(String newPlace) {
        place = newPlace;
    }

    static String place() {
        return place;
    }

    /** In every world a call answers a finding, and nothing changes but where told. */
    static void refused(int finding, String name, long... args) {
        for (World world : World.values()) {
            refusedIn(world, finding, name, args);
        }
    }

    /** The same in the worlds that something has been told to. */
    static void refusedIfTold(int finding, String name, long... args) {
        for (World world : World.values()) {
            if (world != World.BLANK) {
                refusedIn(world, finding, name, args);
            }
        }
    }

    static void refusedIn(World world, int finding, String name, long... args) {
        for (Look look : Look.values()) {
            Run run = world.made();
            long host = run.call("count", 4);
            run.is(finding, name, args);
            run.is(isOfHost(finding) ? host + 1 : host, "count", 4);
            emptied(world, name, run);
            String shown = look.at(run);
            if (!Check.due(place + name + " in " + world, shown, world.untouched(look))) {
                System.out.println("after:\n" + run.told());
            }
        }
    }

    /** In every world nothing is changed by a call that only asks. */
    static void changesNothing(String name, long... args) {
        for (World world : World.values()) {
            for (Look look : Look.values()) {
                Run run = world.made();
                long host = run.call("count", 4);
                run.does(name, args).is(host, "count", 4);
                emptied(world, "", run);
                Check.due(place + name + " in " + world, look.at(run), world.untouched(look));
            }
        }
    }

    private static boolean isOfHost(int finding) {
        return finding == NOTHING || finding == PLACE || finding == SORT || finding == SIZE;
    }

    /** The tape behind scene() and choice(), and what waits behind play(), are gone; it is put there again. */
    private static void emptied(World world, String name, Run run) {
        boolean tape = name.equals("scene") || name.equals("choice");
        boolean waiting = name.equals("play");
        run.is(tape ? 0 : world.tape.length(), "count", 2);
        run.is(waiting ? 0 : world.waiting.length(), "count", 3);
        if (tape) {
            run.text(world.tape);
        }
        if (waiting) {
            world.tell(run);
        }
    }

    /** Each sentence of the document's terms and promises has a test, and no test is for one that is not there. */
    static void compareWithDocument(Path document) throws IOException {
        if (!Files.exists(document)) {
            System.out.println("no document to compare the tests with: " + document);
            return;
        }
        Set<String> said = Sentences.of(Files.readAllLines(document));
        for (String sentence : said) {
            Check.due("no test for: " + sentence, tested.contains(sentence) ? 1 : 0, 1);
        }
        for (String sentence : tested) {
            Check.due("not in the document: " + sentence, said.contains(sentence) ? 1 : 0, 1);
        }
        System.out.println("edges: " + said.size() + " sentences of the document, " + tested.size() + " tested");
    }
}
