import java.util.ArrayList;
import java.util.Arrays;
import java.util.List;

/** A run of calls on a new object; it is told whole when an answer in it is not the one that is due. */
final class Run implements Caller {
    /** The document says nothing of an object's later calls. */
    private static final int MOST_CALLS = 512;

    private final TaleBench bench = new TaleBench();
    private final StringBuilder told = new StringBuilder();
    private final List<String> names = new ArrayList<>();
    private final List<long[]> rows = new ArrayList<>();

    @Override
    public long call(String name, long... args) {
        if (names.size() == MOST_CALLS) {
            throw new IllegalStateException("a test with too many calls:\n" + told);
        }
        names.add(name);
        rows.add(args);
        told.append(name).append(Arrays.toString(args));
        long answer = Calls.onBench(bench, name, args);
        told.append(" = ").append(answer).append('\n');
        return answer;
    }

    /** A call whose answer is looked at elsewhere, or nowhere. */
    Run does(String name, long... args) {
        call(name, args);
        return this;
    }

    /** A call with the answer that is due. */
    Run is(long want, String name, long... args) {
        long got = call(name, args);
        String place = Edges.place() + name + Arrays.toString(args);
        if (!Check.due(place, got, want)) {
            System.out.println("after:\n" + told);
        }
        return this;
    }

    /** The same call for several arguments: name(firsts.., 0), name(firsts.., 1) and so on. */
    Run are(String name, long[] firsts, long... wants) {
        for (int i = 0; i < wants.length; i++) {
            long[] args = Arrays.copyOf(firsts, firsts.length + 1);
            args[firsts.length] = i;
            is(wants[i], name, args);
        }
        return this;
    }

    /** Puts a text on the tape, in pieces that feed() takes. */
    Run text(String text) {
        for (int i = 0; i < text.length(); i += 8) {
            int n = Math.min(8, text.length() - i);
            call("feed", Tales.bytes(text, i, n, 0), n);
        }
        return this;
    }

    Run scene(int s, int kind, String need) {
        return text(need).does("scene", s, kind);
    }

    Run choice(int s, int k, int to, String need) {
        return text(need).does("choice", s, k, to);
    }

    /** An oracle that the same calls have been told to. */
    Oracle oracle() {
        Oracle oracle = new Oracle();
        for (int i = 0; i < names.size(); i++) {
            Calls.onOracle(oracle, names.get(i), rows.get(i));
        }
        return oracle;
    }

    String told() {
        return told.toString();
    }
}
