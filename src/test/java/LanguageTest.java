import java.lang.reflect.Constructor;
import java.lang.reflect.Field;
import java.lang.reflect.Member;
import java.lang.reflect.Method;
import java.lang.reflect.Modifier;
import java.nio.file.Files;
import java.nio.file.Path;
import java.util.ArrayList;
import java.util.Arrays;
import java.util.HashSet;
import java.util.List;
import java.util.Set;
import java.util.TreeSet;
import java.util.regex.Matcher;
import java.util.regex.Pattern;

/** The document's face, and those rules of LANGUAGE.md that a look at the class or its text can tell. */
public final class LanguageTest {
    private static final String[] FACE = {
        "int feed(long, int)", "int scene(int, int)", "int loss(int, int)", "int choice(int, int, int)",
        "int gives(int, int, int, int)", "int line(int, int, int, int)", "int drop(int, int)", "int start(int)",
        "int of(int, int)", "int about(int, int, int)", "int states(int)", "int reached(int)", "int live(int)",
        "int open(int, int)", "int trap(int)", "int way(int)", "int step(int, int)", "long ways(int)",
        "int cut(int, boolean)", "int mend()", "int sheet(int, int, int)", "int write(int, int, int)",
        "int words(int, int, int, int)", "int sessions(int, int)", "int tell(int)", "int play()", "int at(int)",
        "int keep(int)", "int back(int)", "int melt()", "int clash(int)", "int count(int)"
    };
    private static final String[] NO_WORDS = {
        "throw", "throws", "try", "catch", "synchronized", "assert", "import", "package", "var", "Object", "volatile",
        "transient", "native", "strictfp", "hashCode", "toString", "Thread", "System", "Random", "protected"
    };
    private static final String[] NO_SIGNS = {"->", "::", "@", "\"", "? extends", "? super"};
    private static final int MOST_LINES = 60;

    private static String told(Method m) {
        StringBuilder b = new StringBuilder(m.getReturnType().getSimpleName()).append(' ').append(m.getName());
        String sign = "(";
        for (Class<?> p : m.getParameterTypes()) {
            b.append(sign).append(p.getSimpleName());
            sign = ", ";
        }
        return b.append(sign.equals("(") ? "()" : ")").toString();
    }

    private static void face() {
        Set<String> shown = new TreeSet<>();
        Set<String> names = new HashSet<>();
        for (Method m : TaleBench.class.getDeclaredMethods()) {
            if (!Modifier.isPrivate(m.getModifiers())) {
                shown.add(told(m));
                names.add(m.getName());
            }
        }
        Check.due("methods of the face", shown.toString(), new TreeSet<>(Arrays.asList(FACE)).toString());
        List<Class<?>> all = new ArrayList<>(Arrays.asList(TaleBench.class.getDeclaredClasses()));
        all.add(TaleBench.class);
        for (Class<?> c : all) {
            for (Method m : c.getDeclaredMethods()) {
                boolean hidden = c != TaleBench.class || Modifier.isPrivate(m.getModifiers());
                Check.due("a public name: " + m, hidden && names.contains(m.getName()) ? 1 : 0, 0);
                Check.due("parameters of " + m, m.getParameterCount() <= 7 ? 0 : 1, 0);
            }
        }
        Constructor<?>[] made = TaleBench.class.getDeclaredConstructors();
        Check.due("one public constructor", made.length, 1);
        Check.due("one public constructor", made[0].toString(), "public TaleBench()");
        Check.due("public final", TaleBench.class.getModifiers(), Modifier.PUBLIC | Modifier.FINAL);
    }

    private static void members() {
        Class<?>[] inside = TaleBench.class.getDeclaredClasses();
        Check.due("some twelve classes", inside.length <= 11 ? 0 : inside.length, 0);
        for (Class<?> c : inside) {
            Check.due("static: " + c, Modifier.isStatic(c.getModifiers()) ? 1 : 0, 1);
            Check.due("no class in a class inside: " + c, c.getDeclaredClasses().length, 0);
            fields(c);
        }
        for (Member m : TaleBench.class.getDeclaredFields()) {
            Check.due("private: " + m, Modifier.isPrivate(m.getModifiers()) ? 1 : 0, 1);
        }
        fields(TaleBench.class);
    }

    private static void fields(Class<?> c) {
        int own = 0;
        for (Field f : c.getDeclaredFields()) {
            boolean isStatic = Modifier.isStatic(f.getModifiers());
            own += isStatic ? 0 : 1;
            Check.due("a static field is final: " + f, isStatic && !Modifier.isFinal(f.getModifiers()) ? 1 : 0, 0);
        }
        Check.due("some twenty fields: " + c, own <= 20 ? 0 : own, 0);
    }

    private static void text(String source) {
        String bare = source.replaceAll("(?s)/\\*.*?\\*/", "").replaceAll("//[^\n]*", "").replaceAll("'.'", "' '");
        for (String word : NO_WORDS) {
            boolean there = Pattern.compile("\\b" + word + "\\b").matcher(bare).find();
            Check.due("the word " + word, there ? 1 : 0, 0);
        }
        for (String sign : NO_SIGNS) {
            Check.due("the sign " + sign, bare.contains(sign) ? 1 : 0, 0);
        }
        for (char c : source.toCharArray()) {
            if (c != '\n' && (c < 32 || c > 126)) {
                Check.due("a sign beyond those of plain texts", c, 0);
            }
        }
        Matcher library = Pattern.compile("\\b(Integer|Long|Math)\\.(\\w+)").matcher(bare);
        while (library.find()) {
            String name = library.group(2);
            Check.due("library: " + library.group(), name.matches("bitCount|max|min") ? 0 : 1, 0);
        }
        Matcher loops = Pattern.compile("\\b(while|do|for)\\b[^\n]*").matcher(bare);
        while (loops.find()) {
            Check.due("a counter: " + loops.group(), loops.group().matches("for \\(int \\w+ = .*(\\+\\+|--)\\) \\{")
                ? 0 : 1, 0);
        }
    }

    /** Methods stand at four or eight blanks and end with a brace at as many. */
    private static void lengths(List<String> lines) {
        int from = -1;
        String end = "";
        for (int i = 0; i < lines.size(); i++) {
            String line = lines.get(i);
            if (line.matches("( {4}| {8})\\w.*\\) \\{") && !line.trim().matches("(if|for|switch|while) .*")) {
                from = i;
                end = line.replaceAll("\\S.*", "") + "}";
            } else if (from >= 0 && line.equals(end)) {
                Check.due("lines of " + lines.get(from).trim(), i - from < MOST_LINES ? 0 : i - from, 0);
                from = -1;
            }
        }
    }

    public static void main(String[] args) throws Exception {
        Path file = Path.of("src/main/java/TaleBench.java");
        face();
        members();
        text(Files.readString(file));
        lengths(Files.readAllLines(file));
        Check.end("language");
    }
}
