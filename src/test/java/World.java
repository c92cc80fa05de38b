import java.util.EnumMap;
import java.util.Map;

/** Objects in which calls are refused: from one that nothing was told, to one that is full to the brim. */
enum World {
    BLANK("", ""),
    FULL("d", "31"),
    BRIM("d" + "&d".repeat(49) + "&", "31" + "0".repeat(28)),
    NO_BEGINNING("d", "31"),
    CLASHING("d", "31");

    /** What is on the tape, and what waits, digit by digit. */
    final String tape;
    final String waiting;
    private final Map<Look, String> untouched = new EnumMap<>(Look.class);

    World(String tape, String waiting) {
        this.tape = tape;
        this.waiting = waiting;
    }

    Run made() {
        Run run = new Run();
        if (this == BLANK) {
            return run;
        }
        full(run);
        if (this == BRIM) {
            run.does("sheet", 3, 2, 30).does("write", 3, 29, Integer.MIN_VALUE);
        } else if (this == NO_BEGINNING) {
            run.does("cut", 0, 1);
        } else if (this == CLASHING) {
            run.does("line", 0, 0, 41, 2);
        }
        tell(run);
        return run.text(tape);
    }

    /** The numbers that wait in this world wait again. */
    void tell(Run run) {
        for (char c : waiting.toCharArray()) {
            run.does("tell", c - '0');
        }
    }

    /** What a look at this world shows before any call is refused. */
    String untouched(Look look) {
        return untouched.computeIfAbsent(look, l -> l.at(made()));
    }

    /**
     * A tale with each KIND, two kept ones that differ from it, a CUT, SHEETS of each SORT and a MISSING one, a played
     * row, two findings of the host.
     */
    private static void full(Run run) {
        run.does("scene", 0, 0).scene(1, 1, "a").scene(2, 2, "").does("loss", 2, 6).does("scene", 3, 3)
            .scene(4, 4, "b|!c").does("start", 8).does("keep", 0)
            .does("choice", 0, 0, 1).does("gives", 0, 0, 1, 8).does("line", 0, 0, 40, 2).does("keep", 1)
            .choice(0, 3, 2, "!a&d").does("choice", 2, 1, 3).does("line", 2, 1, 41, 2).does("choice", 2, 5, 4)
            .does("cut", 4, 1)
            .does("sheet", 0, 0, 3).does("write", 0, 1, 7).does("sheet", 1, 1, 2).does("write", 1, 1, -300)
            .does("sheet", 2, 2, 1).does("write", 2, 0, -1010)
            .does("tell", 0).does("play").does("loss", 9, 0).does("loss", 0, 0);
    }
}
