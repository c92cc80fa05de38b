import java.util.LinkedHashSet;
import java.util.List;
import java.util.Set;

/** The sentences of the document's terms and promises, each behind the number of its promise (0: terms). */
final class Sentences {
    private Sentences() {
    }

    static Set<String> of(List<String> lines) {
        Set<String> all = new LinkedHashSet<>();
        int promise = -1;
        for (String line : lines) {
            if (line.startsWith("## ")) {
                promise = promiseOf(line);
            } else if (promise >= 0 && !line.startsWith("```") && !line.startsWith("Ahead of the calls")) {
                add(all, promise, bare(line));
            }
        }
        return all;
    }

    private static int promiseOf(String heading) {
        if (heading.equals("## Terms")) {
            return 0;
        }
        return heading.startsWith("## Promise ") ? Integer.parseInt(heading.replaceAll("\\D+(\\d+):.*", "$1")) : -1;
    }

    /** Without the number of a paragraph, or the call that a promise is of. */
    private static String bare(String line) {
        return line.trim().replaceFirst("^\\d\\. ", "").replaceFirst("^`[^`]*`: ", "");
    }

    /** A sentence ends at a dot or semicolon that is in no brackets, or with brackets that end with a dot. */
    private static void add(Set<String> all, int promise, String line) {
        int from = 0;
        int depth = 0;
        for (int i = 0; i < line.length(); i++) {
            char c = line.charAt(i);
            depth += c == '(' ? 1 : c == ')' ? -1 : 0;
            boolean last = i + 1 == line.length() || line.charAt(i + 1) == ' ';
            boolean stops = c == ';' || c == '.' && i > 0 && " .".indexOf(line.charAt(i - 1)) < 0
                || c == ')' && line.charAt(i - 1) == '.';
            if (i + 1 == line.length() || last && stops && depth <= 0) {
                all.add(promise + " " + line.substring(from, i + 1).replaceFirst("[.;]$", "").trim());
                from = i + 1;
            }
        }
    }
}
