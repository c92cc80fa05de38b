import java.lang.management.ManagementFactory;
import java.util.Random;

/** Tales as large as may be: answers as the oracle's, and no rows made by any call. */
public final class LargeTalesTest {
    private static final String[] NEEDS = {"", "", "", "", "a|b", "!c", "d|!e", "f|g|h", "!(a&h)", "b|!b&g"};

    private final Random random;
    private final TaleBench bench = new TaleBench();
    private final Oracle oracle = new Oracle();

    private LargeTalesTest(long seed) {
        random = new Random(seed);
    }

    private void feed() {
        String text = NEEDS[random.nextInt(NEEDS.length)];
        Tales.feed(bench, text);
        oracle.tape += text;
    }

    private void build(int endings) {
        for (int s = 0; s < 20; s++) {
            feed();
            int kind = s == 0 ? 0 : s >= 20 - endings ? 3 : random.nextInt(3);
            Check.due("scene", bench.scene(s, kind), oracle.scene(s, kind));
            int set = random.nextInt(256) & random.nextInt(256) & random.nextInt(256);
            Check.due("loss", bench.loss(s, set), oracle.loss(s, set));
        }
        for (int s = 0; s < 20; s++) {
            for (int k = 0; k < 6; k++) {
                feed();
                int to = random.nextInt(20);
                Check.due("choice", bench.choice(s, k, to), oracle.choice(s, k, to));
                int give = random.nextInt(256) & random.nextInt(256);
                int take = random.nextInt(256) & random.nextInt(256) & ~give;
                Check.due("gives", bench.gives(s, k, give, take), oracle.gives(s, k, give, take));
            }
        }
    }

    private void ask() {
        for (int what = 0; what < 5; what++) {
            Check.due("states " + what, bench.states(what), oracle.states(what));
        }
        for (int s = 0; s < 20; s++) {
            Check.due("way", bench.way(s), oracle.way(s));
            for (int i = 0; i < 5; i++) {
                Check.due("step", bench.step(s, i), oracle.step(s, i));
            }
            Check.due("live", bench.live(s), oracle.live(s));
            Check.due("reached", bench.reached(s), oracle.reached(s));
            Check.due("trap", bench.trap(s), oracle.trap(s));
        }
        Check.due("ways 20", bench.ways(20), oracle.ways(20));
        Check.due("ways 7", bench.ways(7), oracle.ways(7));
    }

    private void askOfCuts() {
        for (int n = 0; n < 4; n++) {
            int s = 1 + random.nextInt(19);
            Check.due("cut", bench.cut(s, true), oracle.cut(s, true));
            Check.due("mend", bench.mend(), oracle.mend());
            Check.due("states", bench.states(3), oracle.states(3));
        }
    }

    /** All 5120 states, each with six open choices: a ring in which each scene can give a fact, and take it. */
    private static TaleBench dearest() {
        TaleBench b = new TaleBench();
        for (int s = 0; s < 20; s++) {
            b.scene(s, 0);
            for (int k = 0; k < 6; k++) {
                b.choice(s, k, k < 2 ? s : (s + 1) % 20);
            }
            b.gives(s, 0, 1 << s % 8, 0);
            b.gives(s, 1, 0, 1 << s % 8);
        }
        return b;
    }

    /** How many bytes this thread has made so far. */
    private static long bytesMade() {
        return ((com.sun.management.ThreadMXBean) ManagementFactory.getThreadMXBean())
            .getThreadAllocatedBytes(Thread.currentThread().getId());
    }

    /** An object takes a small part of the room that a run has. */
    private static void newObject() {
        bytesMade();
        long before = bytesMade();
        TaleBench b = new TaleBench();
        long made = bytesMade() - before;
        System.out.println("a new object: " + made + " bytes made, scenes " + b.count(0));
        Check.due("a new object is small", made < 1_000_000 ? 0 : made, 0);
    }

    private static void dearestCalls() {
        TaleBench b = dearest();
        Check.due("dearest: states", b.states(0), 5120);
        b.cut(18, true);
        Check.due("dearest: nothing mends", b.mend(), Findings.NONE);
        bytesMade();
        long before = bytesMade();
        long answers = 0;
        for (int n = 0; n < 60; n++) {
            answers += b.mend() + b.states(4) + b.ways(20) + b.trap(n) + b.step(17, 3) + b.live(0) + b.cut(18, true)
                + b.keep(0) + b.back(0) + b.keep(1) + b.melt() + b.clash(n) + b.feed(0x2828282828282828L, 8)
                + b.choice(0, 0, 1) + b.sheet(0, 0, 30) + b.words(0, 0, 0, 0) + b.sessions(0, 9) + b.play();
        }
        long made = bytesMade() - before;
        System.out.println("dearest: " + made + " bytes made in 1080 calls, sum " + answers);
        Check.due("calls make next to nothing", made < 20000 ? 0 : made, 0);
    }

    public static void main(String[] args) {
        for (int seed = 0; seed < 12; seed++) {
            LargeTalesTest test = new LargeTalesTest(seed);
            test.build(seed % 4);
            test.ask();
            test.askOfCuts();
        }
        newObject();
        dearestCalls();
        Check.end("large tales");
    }
}
