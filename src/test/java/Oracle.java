import java.util.ArrayDeque;
import java.util.ArrayList;
import java.util.Arrays;
import java.util.Deque;
import java.util.HashMap;
import java.util.HashSet;
import java.util.List;
import java.util.Map;
import java.util.Set;
import java.util.TreeMap;

/**
 * The document told once more, as slowly and plainly as may be and in other ways than the class tells it, so that
 * random runs can be held against it.
 */
final class Oracle {
    static final class Scene {
        int kind;
        boolean[] need = always();
        int set;
        final Choice[] choices = new Choice[6];
    }

    static final class Choice {
        int to;
        boolean[] need = always();
        int gives;
        int takes;
        int words;
        int voice;
    }

    static final class Story {
        final Scene[] scenes = new Scene[20];
        int start;
    }

    Story story = new Story();
    Story base;
    Story other;
    final boolean[] cut = new boolean[20];
    String tape = "";
    final int[] sheetSort = {-1, -1, -1, -1};
    final int[][] sheets = new int[4][];
    final List<Integer> waiting = new ArrayList<>();
    int[] played;
    int host;

    static boolean[] always() {
        boolean[] all = new boolean[256];
        Arrays.fill(all, true);
        return all;
    }

    int host(int finding) {
        host++;
        return finding;
    }

    static boolean in(int v, int least, int most) {
        return v >= least && v <= most;
    }

    // ---- texts

    /** -1, or the place that is wrong: a machine with a stack of open signs, which tells operands from what joins. */
    static int wrong(String text) {
        if (text.length() > 60) {
            return 60;
        }
        Deque<Character> open = new ArrayDeque<>();
        boolean wantsOne = true;
        for (int i = 0; i < text.length(); i++) {
            char c = text.charAt(i);
            if (wantsOne) {
                if ("abcdefgh01".indexOf(c) >= 0) {
                    wantsOne = false;
                } else if ((c == '!' || c == '(') && open.size() < 12) {
                    open.push(c);
                } else {
                    return i;
                }
            } else if (c == ')') {
                if (open.isEmpty()) {
                    return i;
                }
                open.pop();
            } else if (c == '&' || c == '|') {
                wantsOne = true;
            } else {
                return i;
            }
            if (!wantsOne) {
                while (!open.isEmpty() && open.peek() == '!') {
                    open.pop();
                }
            }
        }
        return wantsOne || !open.isEmpty() ? text.length() : -1;
    }

    /** Whether a right text holds for a set: facts are put in, and it is told shorter till one sign is left. */
    static boolean holds(String text, int set) {
        StringBuilder b = new StringBuilder();
        for (char c : text.toCharArray()) {
            b.append(c >= 'a' && c <= 'h' ? ((set >> (c - 'a') & 1) != 0 ? '1' : '0') : c);
        }
        String s = b.toString();
        String[][] not = {{"!0", "1"}, {"!1", "0"}, {"(0)", "0"}, {"(1)", "1"}};
        String[][] and = {{"0&0", "0"}, {"0&1", "0"}, {"1&0", "0"}, {"1&1", "1"}};
        String[][] or = {{"0|0", "0"}, {"0|1", "1"}, {"1|0", "1"}, {"1|1", "1"}};
        while (s.length() > 1) {
            String shorter = once(s, not);
            if (shorter == null) {
                shorter = once(s, and);
            }
            if (shorter == null) {
                shorter = onceBetween(s, or);
            }
            s = shorter;
        }
        return s.equals("1");
    }

    private static String once(String s, String[][] rules) {
        for (String[] rule : rules) {
            int i = s.indexOf(rule[0]);
            if (i >= 0) {
                return s.substring(0, i) + rule[1] + s.substring(i + rule[0].length());
            }
        }
        return null;
    }

    /** No not and no and can be told shorter: then each 'x|y' may, unless a '&' or '!' stands by it. */
    private static String onceBetween(String s, String[][] rules) {
        for (String[] rule : rules) {
            for (int i = s.indexOf(rule[0]); i >= 0; i = s.indexOf(rule[0], i + 1)) {
                char before = i == 0 ? '|' : s.charAt(i - 1);
                char behind = i + 3 == s.length() ? '|' : s.charAt(i + 3);
                if (before != '&' && behind != '&') {
                    return s.substring(0, i) + rule[1] + s.substring(i + 3);
                }
            }
        }
        throw new IllegalStateException(s);
    }

    static boolean[] table(String text) {
        boolean[] need = always();
        for (int set = 0; set < 256 && !text.isEmpty(); set++) {
            need[set] = holds(text, set);
        }
        return need;
    }

    static int reads(boolean[] need) {
        int bits = 0;
        for (int set = 0; set < 256; set++) {
            for (int f = 0; f < 8; f++) {
                if (need[set] != need[set ^ 1 << f]) {
                    bits |= 1 << f;
                }
            }
        }
        return bits;
    }

    static int holding(boolean[] need) {
        int many = 0;
        for (boolean b : need) {
            many += b ? 1 : 0;
        }
        return many;
    }

    // ---- needs, scenes, choices

    int feed(long w, int n) {
        if (!in(n, 1, 8) || tape.length() + n > 100) {
            return -1002;
        }
        for (int i = 0; i < n; i++) {
            tape += (char) (w & 255);
            w >>= 8;
        }
        return tape.length();
    }

    int scene(int s, int kind) {
        String text = tape;
        tape = "";
        if (!in(s, 0, 19) || !in(kind, -1, 4)) {
            return -1002;
        }
        boolean hasNeed = kind == 1 || kind == 2 || kind == 4;
        if (hasNeed && !text.isEmpty() && wrong(text) >= 0) {
            return -1100 - wrong(text);
        }
        Scene old = story.scenes[s];
        int was = old == null ? -1 : old.kind;
        if (kind == -1) {
            story.scenes[s] = null;
            return was;
        }
        Scene made = new Scene();
        made.kind = kind;
        if (hasNeed) {
            made.need = table(text);
        }
        for (int k = 0; k < 6 && old != null; k++) {
            made.choices[k] = old.choices[k];
        }
        story.scenes[s] = made;
        return was;
    }

    int loss(int s, int set) {
        if (!in(s, 0, 19) || !in(set, 0, 255)) {
            return -1002;
        }
        Scene scene = story.scenes[s];
        if (scene == null) {
            return host(-1010);
        }
        if (scene.kind != 2) {
            return host(-1012);
        }
        int was = scene.set;
        scene.set = set;
        return was;
    }

    int choice(int s, int k, int to) {
        String text = tape;
        tape = "";
        if (!in(s, 0, 19) || !in(k, 0, 5) || !in(to, 0, 19)) {
            return -1002;
        }
        if (story.scenes[s] == null) {
            return host(-1010);
        }
        if (!text.isEmpty() && wrong(text) >= 0) {
            return -1100 - wrong(text);
        }
        int was = story.scenes[s].choices[k] == null ? 0 : 1;
        Choice made = new Choice();
        made.to = to;
        made.need = table(text);
        story.scenes[s].choices[k] = made;
        return was;
    }

    Choice choiceAt(int s, int k) {
        return story.scenes[s] == null ? null : story.scenes[s].choices[k];
    }

    int gives(int s, int k, int give, int take) {
        if (!in(s, 0, 19) || !in(k, 0, 5) || !in(give, 0, 255) || !in(take, 0, 255) || (give & take) != 0) {
            return -1002;
        }
        Choice c = choiceAt(s, k);
        if (c == null) {
            return host(-1010);
        }
        c.gives = give;
        c.takes = take;
        return 1;
    }

    int line(int s, int k, int words, int voice) {
        if (!in(s, 0, 19) || !in(k, 0, 5) || !in(words, 0, 99) || !in(voice, 0, 3)) {
            return -1002;
        }
        Choice c = choiceAt(s, k);
        if (c == null) {
            return host(-1010);
        }
        c.words = words;
        c.voice = voice;
        return 1;
    }

    int drop(int s, int k) {
        if (!in(s, 0, 19) || !in(k, 0, 5)) {
            return -1002;
        }
        if (choiceAt(s, k) == null) {
            return 0;
        }
        story.scenes[s].choices[k] = null;
        return 1;
    }

    int start(int set) {
        if (!in(set, 0, 255)) {
            return -1002;
        }
        int was = story.start;
        story.start = set;
        return was;
    }

    int of(int s, int what) {
        if (!in(s, 0, 19) || !in(what, 0, 5)) {
            return -1002;
        }
        Scene scene = story.scenes[s];
        if (what == 0) {
            return scene == null ? -1 : scene.kind;
        }
        if (what == 1) {
            return cut[s] ? 1 : 0;
        }
        if (scene == null) {
            return host(-1010);
        }
        int bits = 0;
        for (int k = 0; k < 6; k++) {
            bits |= scene.choices[k] == null ? 0 : 1 << k;
        }
        return new int[] {0, 0, reads(scene.need), holding(scene.need), scene.set, bits}[what];
    }

    int about(int s, int k, int what) {
        if (!in(s, 0, 19) || !in(k, 0, 5) || !in(what, 0, 6)) {
            return -1002;
        }
        Choice c = choiceAt(s, k);
        if (c == null) {
            return host(-1010);
        }
        return new int[] {c.to, reads(c.need), holding(c.need), c.gives, c.takes, c.words, c.voice}[what];
    }

    // ---- what can be come to: a state is a scene times 1000 and the facts

    Integer leads(int state, int k, boolean[] cuts) {
        Scene scene = story.scenes[state / 1000];
        Choice c = scene.choices[k];
        if (scene.kind >= 3 || c == null || !c.need[state % 1000]) {
            return null;
        }
        Scene to = story.scenes[c.to];
        if (to == null || cuts[c.to]) {
            return null;
        }
        int facts = 0;
        for (int f = 0; f < 8; f++) {
            boolean has = (state % 1000 >> f & 1) != 0;
            has = has && (c.takes >> f & 1) == 0 || (c.gives >> f & 1) != 0;
            facts += has ? 1 << f : 0;
        }
        if (!to.need[facts]) {
            return null;
        }
        return c.to * 1000 + (to.kind == 2 ? facts & ~to.set : facts);
    }

    Integer beginning(boolean[] cuts, int set) {
        return story.scenes[0] == null || cuts[0] ? null : (Integer) set;
    }

    Set<Integer> reachedFrom(Integer first, boolean[] cuts) {
        Set<Integer> all = new HashSet<>();
        List<Integer> todo = new ArrayList<>();
        if (first != null) {
            todo.add(first);
            all.add(first);
        }
        while (!todo.isEmpty()) {
            int state = todo.remove(todo.size() - 1);
            for (int k = 0; k < 6; k++) {
                Integer to = leads(state, k, cuts);
                if (to != null && all.add(to)) {
                    todo.add(to);
                }
            }
        }
        return all;
    }

    Set<Integer> reachedStates() {
        return reachedFrom(beginning(cut, story.start), cut);
    }

    boolean ending(int state) {
        return story.scenes[state / 1000].kind >= 3;
    }

    /** Reached ones from which an ending can be come to are added till no more are. */
    Set<Integer> hopelessStates() {
        Set<Integer> hopeless = new HashSet<>(reachedStates());
        for (boolean more = true; more;) {
            more = false;
            for (int state : new ArrayList<>(hopeless)) {
                boolean hope = ending(state);
                for (int k = 0; k < 6; k++) {
                    Integer to = leads(state, k, cut);
                    hope |= to != null && !hopeless.contains(to);
                }
                if (hope) {
                    hopeless.remove(state);
                    more = true;
                }
            }
        }
        return hopeless;
    }

    int states(int what) {
        if (!in(what, 0, 4)) {
            return -1002;
        }
        if (what == 3) {
            return hopelessStates().size();
        }
        int[] live = liveSets();
        int endings = 0;
        int stuck = 0;
        Set<Integer> pairs = new HashSet<>();
        for (int state : reachedStates()) {
            boolean on = ending(state);
            endings += on ? 1 : 0;
            for (int k = 0; k < 6; k++) {
                on |= leads(state, k, cut) != null;
            }
            stuck += on ? 0 : 1;
            pairs.add(state / 1000 * 1000 + (state % 1000 & live[state / 1000]));
        }
        return new int[] {reachedStates().size(), endings, stuck, 0, pairs.size()}[what];
    }

    int reached(int s) {
        if (!in(s, 0, 19)) {
            return -1002;
        }
        int many = 0;
        for (int state : reachedStates()) {
            many += state / 1000 == s ? 1 : 0;
        }
        return many;
    }

    /** Fact by fact, scene by scene, till nothing is added. */
    int[] liveSets() {
        int[] live = new int[20];
        for (int round = 0; round < 200; round++) {
            for (int s = 0; s < 20; s++) {
                for (int k = 0; k < 6; k++) {
                    Choice c = choiceAt(s, k);
                    if (c == null || story.scenes[s].kind >= 3 || story.scenes[c.to] == null) {
                        continue;
                    }
                    Scene to = story.scenes[c.to];
                    for (int f = 0; f < 8; f++) {
                        int bit = 1 << f;
                        boolean changed = ((c.gives | c.takes) & bit) != 0;
                        boolean lost = to.kind == 2 && (to.set & bit) != 0;
                        boolean here = (readsOf(c.need) & bit) != 0
                            || !changed && (readsOf(to.need) & bit) != 0
                            || !changed && !lost && (live[c.to] & bit) != 0;
                        live[s] |= here ? bit : 0;
                    }
                }
            }
        }
        return live;
    }

    private final Map<boolean[], Integer> readsKnown = new HashMap<>();

    private int readsOf(boolean[] need) {
        return readsKnown.computeIfAbsent(need, Oracle::reads);
    }

    int live(int s) {
        if (!in(s, 0, 19)) {
            return -1002;
        }
        return story.scenes[s] == null ? host(-1010) : liveSets()[s];
    }

    int open(int s, int k) {
        if (!in(s, 0, 19) || !in(k, 0, 5)) {
            return -1002;
        }
        if (choiceAt(s, k) == null) {
            return host(-1010);
        }
        int many = 0;
        for (int state : reachedStates()) {
            many += state / 1000 == s && leads(state, k, cut) != null ? 1 : 0;
        }
        return many;
    }

    int trap(int i) {
        Set<Integer> hopeless = hopelessStates();
        Set<Integer> traps = new java.util.TreeSet<>();
        for (int state : reachedStates()) {
            for (int k = 0; k < 6; k++) {
                Integer to = leads(state, k, cut);
                if (to != null && !hopeless.contains(state) && hopeless.contains(to)) {
                    traps.add(state / 1000 * 10 + k);
                }
            }
        }
        return in(i, 0, traps.size() - 1) ? new ArrayList<>(traps).get(i) : -1003;
    }

    /** Of all ways, told as digits: the states of each length with the least way to each. Null if none is reached. */
    String wayTo(int s) {
        Map<Integer, String> level = new TreeMap<>();
        Integer first = beginning(cut, story.start);
        if (first != null) {
            level.put(first, "");
        }
        Set<Integer> seen = new HashSet<>(level.keySet());
        while (!level.isEmpty()) {
            String best = null;
            for (Map.Entry<Integer, String> e : level.entrySet()) {
                if (e.getKey() / 1000 == s && (best == null || e.getValue().compareTo(best) < 0)) {
                    best = e.getValue();
                }
            }
            if (best != null) {
                return best;
            }
            Map<Integer, String> longer = new TreeMap<>();
            for (Map.Entry<Integer, String> e : level.entrySet()) {
                for (int k = 0; k < 6; k++) {
                    Integer to = leads(e.getKey(), k, cut);
                    if (to != null && !seen.contains(to)) {
                        longer.merge(to, e.getValue() + k, (x, y) -> x.compareTo(y) < 0 ? x : y);
                    }
                }
            }
            seen.addAll(longer.keySet());
            level = longer;
        }
        return null;
    }

    int way(int s) {
        if (!in(s, 0, 19)) {
            return -1002;
        }
        String way = wayTo(s);
        return way == null ? -1003 : way.length();
    }

    int step(int s, int i) {
        if (!in(s, 0, 19) || i < 0) {
            return -1002;
        }
        String way = wayTo(s);
        if (way == null) {
            return -1003;
        }
        return i < way.length() ? way.charAt(i) - '0' : -1;
    }

    long ways(int n) {
        if (!in(n, 0, 20)) {
            return -1002;
        }
        Integer first = beginning(cut, story.start);
        return first == null ? 0 : rowsFrom(first, n, new HashMap<>());
    }

    private long rowsFrom(int state, int n, Map<Integer, Long> known) {
        if (n == 0) {
            return ending(state) ? 1 : 0;
        }
        Long told = known.get(state * 100 + n);
        if (told != null) {
            return told;
        }
        long many = 0;
        for (int k = 0; k < 6; k++) {
            Integer to = leads(state, k, cut);
            many += to == null ? 0 : rowsFrom(to, n - 1, known);
        }
        known.put(state * 100 + n, many);
        return many;
    }

    // ---- cuts

    int cut(int s, boolean is) {
        if (!in(s, 0, 19)) {
            return -1002;
        }
        int was = cut[s] ? 1 : 0;
        cut[s] = is;
        return was;
    }

    private static Set<Integer> scenesOf(Set<Integer> states) {
        Set<Integer> scenes = new HashSet<>();
        for (int state : states) {
            scenes.add(state / 1000);
        }
        return scenes;
    }

    int mend() {
        boolean[] nothing = new boolean[20];
        Set<Integer> wanted = scenesOf(reachedFrom(beginning(nothing, story.start), nothing));
        for (int s = 0; s < 20; s++) {
            if (cut[s]) {
                wanted.remove(s);
            }
        }
        for (int many = 0; many <= 8; many++) {
            for (int set = 0; set < 256; set++) {
                if (Integer.bitCount(set) == many && scenesOf(
                        reachedFrom(beginning(cut, story.start | set), cut)).containsAll(wanted)) {
                    return set;
                }
            }
        }
        return -1003;
    }

    // ---- sheets, sessions

    int sheet(int s, int sort, int n) {
        if (!in(s, 0, 3) || !in(sort, 0, 2) || n > 30) {
            return -1002;
        }
        if (n < 0) {
            return host(-1013);
        }
        sheets[s] = new int[n];
        sheetSort[s] = sort;
        return n;
    }

    int write(int s, int i, int v) {
        if (!in(s, 0, 3)) {
            return -1002;
        }
        if (sheets[s] == null) {
            return host(-1010);
        }
        if (!in(i, 0, sheets[s].length - 1)) {
            return host(-1011);
        }
        int was = sheets[s][i];
        sheets[s][i] = sheetSort[s] == 0 ? (byte) v : sheetSort[s] == 1 ? (short) v : v;
        return was;
    }

    int words(int s, int sheet, int sort, int i) {
        if (!in(s, 0, 19) || !in(sheet, 0, 3) || !in(sort, 0, 2)) {
            return -1002;
        }
        if (story.scenes[s] == null || sheets[sheet] == null) {
            return host(-1010);
        }
        if (sheetSort[sheet] != sort) {
            return host(-1012);
        }
        for (int k = 0; k < 6; k++) {
            long place = (long) i + k;
            if (choiceAt(s, k) != null && (place < 0 || place >= sheets[sheet].length)) {
                return host(-1011);
            }
        }
        int bounded = 0;
        for (int k = 0; k < 6; k++) {
            if (choiceAt(s, k) != null) {
                int v = sheets[sheet][i + k];
                choiceAt(s, k).words = v < 0 ? 0 : v > 99 ? 99 : v;
                bounded += v < 0 || v > 99 ? 1 : 0;
            }
        }
        return bounded;
    }

    /** The fewest rows for the first m lines, for each m: not greedy. */
    int sessions(int voice, int most) {
        if (!in(voice, 0, 3) || !in(most, 1, 1000)) {
            return -1002;
        }
        List<Integer> lines = new ArrayList<>();
        for (int s = 0; s < 20; s++) {
            for (int k = 0; k < 6; k++) {
                Choice c = choiceAt(s, k);
                if (c != null && c.voice == voice && c.words > 0) {
                    lines.add(c.words);
                }
            }
        }
        int[] fewest = new int[lines.size() + 1];
        for (int m = 1; m <= lines.size(); m++) {
            fewest[m] = 9999;
            int sum = 0;
            for (int from = m - 1; from >= 0; from--) {
                sum += lines.get(from);
                if (sum <= most) {
                    fewest[m] = Math.min(fewest[m], fewest[from] + 1);
                }
            }
        }
        return fewest[lines.size()] >= 9999 ? -1003 : fewest[lines.size()];
    }

    // ---- play

    int tell(int v) {
        if (waiting.size() == 30) {
            return -1002;
        }
        waiting.add(v);
        return waiting.size();
    }

    int play() {
        List<Integer> told = new ArrayList<>(waiting);
        waiting.clear();
        Integer state = beginning(cut, story.start);
        if (state == null) {
            return -1003;
        }
        int many = 0;
        for (int k : told) {
            Integer to = in(k, 0, 5) ? leads(state, k, cut) : null;
            if (to == null) {
                break;
            }
            state = to;
            many++;
        }
        played = new int[] {state / 1000, state % 1000};
        return many;
    }

    int at(int what) {
        if (played == null) {
            return -1003;
        }
        return in(what, 0, 1) ? played[what] : -1002;
    }

    // ---- hands

    private static Choice copy(Choice c) {
        if (c == null) {
            return null;
        }
        Choice made = new Choice();
        made.to = c.to;
        made.need = c.need;
        made.gives = c.gives;
        made.takes = c.takes;
        made.words = c.words;
        made.voice = c.voice;
        return made;
    }

    private static Scene copyBare(Scene s) {
        Scene made = new Scene();
        made.kind = s.kind;
        made.need = s.need;
        made.set = s.set;
        return made;
    }

    private static Story copy(Story from) {
        Story made = new Story();
        made.start = from.start;
        for (int s = 0; s < 20; s++) {
            if (from.scenes[s] != null) {
                made.scenes[s] = copyBare(from.scenes[s]);
                for (int k = 0; k < 6; k++) {
                    made.scenes[s].choices[k] = copy(from.scenes[s].choices[k]);
                }
            }
        }
        return made;
    }

    /** An item as a text. */
    private static String item(Story t, int i) {
        if (i == 140) {
            return "start " + t.start;
        }
        Scene s = t.scenes[i / 7];
        if (i % 7 == 0) {
            return s == null ? "none" : s.kind + " " + s.set + " " + Arrays.toString(s.need);
        }
        Choice c = s == null ? null : s.choices[i % 7 - 1];
        return c == null ? "none" : c.to + " " + c.gives + " " + c.takes + " " + c.words + " " + c.voice + " "
            + Arrays.toString(c.need);
    }

    int keep(int which) {
        if (!in(which, 0, 1)) {
            return -1002;
        }
        if (which == 0) {
            base = copy(story);
        } else {
            other = copy(story);
        }
        return 1;
    }

    int back(int which) {
        if (!in(which, 0, 1)) {
            return -1002;
        }
        Story from = which == 0 ? base : other;
        if (from == null) {
            return host(-1010);
        }
        story = copy(from);
        return 1;
    }

    private List<Integer> clashes() {
        List<Integer> all = new ArrayList<>();
        for (int i = 0; i < 141; i++) {
            if (new HashSet<>(Arrays.asList(item(story, i), item(base, i), item(other, i))).size() == 3) {
                all.add(i);
            }
        }
        return all;
    }

    int melt() {
        if (base == null || other == null) {
            return host(-1010);
        }
        if (!clashes().isEmpty()) {
            return -1004;
        }
        Story made = new Story();
        int many = 0;
        for (int i = 140; i >= 0; i--) {
            boolean theirs = !item(other, i).equals(item(base, i));
            many += theirs && !item(other, i).equals(item(story, i)) ? 1 : 0;
        }
        made.start = item(other, 140).equals(item(base, 140)) ? story.start : other.start;
        for (int s = 0; s < 20; s++) {
            Scene from = item(other, 7 * s).equals(item(base, 7 * s)) ? story.scenes[s] : other.scenes[s];
            if (from == null) {
                continue;
            }
            made.scenes[s] = copyBare(from);
            for (int k = 0; k < 6; k++) {
                int i = 7 * s + 1 + k;
                Story source = item(other, i).equals(item(base, i)) ? story : other;
                made.scenes[s].choices[k] = source.scenes[s] == null ? null : copy(source.scenes[s].choices[k]);
            }
        }
        story = made;
        return many;
    }

    int clash(int i) {
        if (base == null || other == null) {
            return host(-1010);
        }
        List<Integer> all = clashes();
        return in(i, 0, all.size() - 1) ? all.get(i) : -1003;
    }

    int count(int what) {
        int scenes = 0;
        int choices = 0;
        for (int s = 0; s < 20; s++) {
            scenes += story.scenes[s] == null ? 0 : 1;
            for (int k = 0; k < 6; k++) {
                choices += choiceAt(s, k) == null ? 0 : 1;
            }
        }
        int[] all = {scenes, choices, tape.length(), waiting.size(), host, story.start};
        return in(what, 0, 5) ? all[what] : -1002;
    }
}
