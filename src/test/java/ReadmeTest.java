import java.nio.file.Files;
import java.nio.file.Path;
import java.util.ArrayList;
import java.util.List;
import java.util.regex.Matcher;
import java.util.regex.Pattern;

/** Makes the calls that README.md tells, one behind the other: each is told with its answer. */
public final class ReadmeTest {
    private static final Pattern CALL = Pattern.compile("b\\.(\\w+)\\(([^)]*)\\); *// (-?\\d+)(: .+)?");
    private static final String NEW_OBJECT = "TaleBench b = new TaleBench();";

    private ReadmeTest() {
    }

    /** The lines between the fences of Java code. */
    private static List<String> code(List<String> page) {
        List<String> found = new ArrayList<>();
        boolean inside = false;
        for (String line : page) {
            if (line.startsWith("```")) {
                inside = line.equals("```java");
            } else if (inside) {
                found.add(line);
            }
        }
        return found;
    }

    private static long[] numbers(String arguments) {
        List<Long> all = new ArrayList<>();
        for (String one : arguments.isEmpty() ? new String[0] : arguments.split(", ")) {
            if (one.startsWith("'")) {
                all.add((long) one.charAt(1));
            } else if (one.equals("true") || one.equals("false")) {
                all.add(one.equals("true") ? 1L : 0L);
            } else {
                all.add(Long.decode(one.replace("L", "")));
            }
        }
        return all.stream().mapToLong(Long::longValue).toArray();
    }

    public static void main(String[] args) throws Exception {
        Run run = null;
        int calls = 0;
        for (String line : code(Files.readAllLines(Path.of("README.md")))) {
            Matcher call = CALL.matcher(line);
            if (line.equals(NEW_OBJECT)) {
                run = new Run();
            } else if (run == null || !call.matches()) {
                Check.due("a call with its answer: " + line, 0, 1);
            } else {
                run.is(Long.parseLong(call.group(3)), call.group(1), numbers(call.group(2)));
                calls++;
            }
        }
        Check.due("calls are told", calls > 0 ? 1 : 0, 1);
        Check.end("readme");
    }
}
