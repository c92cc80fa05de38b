/** A bench for tales that branch; what each call answers is told in the document (see README.md). */
public final class TaleBench {
    private static final int BAD = -1002;
    private static final int NONE = -1003;
    private static final int CLASHED = -1004;
    private static final int NOTHING = -1010;
    private static final int PLACE = -1011;
    private static final int SORT = -1012;
    private static final int SIZE = -1013;
    private static final int WRONG = -1100;

    private static final int SCENES = 20;
    private static final int CHOICES = 6;
    private static final int FACTS = 8;
    private static final int SETS = 256;
    private static final int STATES = SCENES * SETS;
    private static final int STEPS = STATES * CHOICES;
    private static final int ITEMS_OF_SCENE = 1 + CHOICES;
    private static final int START_ITEM = SCENES * ITEMS_OF_SCENE;
    private static final int ITEMS = START_ITEM + 1;

    private static final int ABSENT = -1;
    private static final int GATE = 1;
    private static final int LOSS = 2;
    private static final int ENDING = 3;
    private static final int PRIZE = 4;

    private static final int NEED_LONGS = 4;
    private static final int MOST_WORDS = 99;
    private static final int VOICES = 4;
    private static final int MOST_SESSION = 1000;
    private static final int MOST_WAITING = 30;
    private static final int LONGEST_ROW = 20;
    private static final int SHEETS = 4;
    private static final int SORTS = 3;
    private static final int SHEET_ROOM = 30;

    private static final int NOWHERE = -1;

    private final Tape tape = new Tape();
    private final Tale tale = new Tale();
    private final Tale base = new Tale();
    private final Tale other = new Tale();
    private boolean baseKept;
    private boolean otherKept;
    /** Bit s: SCENE s is CUT. */
    private int cuts;
    private final Web web = new Web();
    /** Whether the web shows what is REACHED as things are now. */
    private boolean webIsFresh;
    private final int[] liveFacts = new int[SCENES];
    private final int[] trapBits = new int[SCENES];
    private final Sheet[] sheets = new Sheet[SHEETS];
    private final int[] waiting = new int[MOST_WAITING];
    private int waitingCount;
    private int playedTo = NOWHERE;
    private int hostFindings;

    public TaleBench() {
        for (int s = 0; s < SHEETS; s++) {
            sheets[s] = new Sheet();
        }
    }

    // ---- needs, scenes, choices

    public int feed(long w, int n) {
        if (n < 1 || n > 8 || tape.length + n > Tape.ROOM) {
            return BAD;
        }
        for (int i = 0; i < n; i++) {
            tape.add((byte) (w >>> (8 * i)));
        }
        return tape.length;
    }

    public int scene(int s, int kind) {
        boolean known = isScene(s) && kind >= ABSENT && kind <= PRIZE;
        int answer = known ? putScene(s, kind) : BAD;
        tape.length = 0;
        return answer;
    }

    private int putScene(int s, int kind) {
        boolean hasNeed = kind == GATE || kind == LOSS || kind == PRIZE;
        int wrong = hasNeed ? tape.readNeed() : Tape.FINE;
        if (wrong != Tape.FINE) {
            return WRONG - wrong;
        }
        Item scene = tale.sceneItem(s);
        int was = scene.main;
        scene.become(kind);
        if (hasNeed) {
            scene.putNeed(tape.need);
        }
        if (kind == ABSENT) {
            tale.removeChoices(s);
        }
        webIsFresh = false;
        return was;
    }

    public int loss(int s, int set) {
        if (!isScene(s) || !isSet(set)) {
            return BAD;
        }
        Item scene = tale.sceneItem(s);
        if (!scene.isThere()) {
            return hostFinding(NOTHING);
        }
        if (scene.main != LOSS) {
            return hostFinding(SORT);
        }
        int was = scene.less;
        scene.less = set;
        webIsFresh = false;
        return was;
    }

    public int choice(int s, int k, int to) {
        boolean known = isScene(s) && isChoice(k) && isScene(to);
        int answer = known ? putChoice(s, k, to) : BAD;
        tape.length = 0;
        return answer;
    }

    private int putChoice(int s, int k, int to) {
        if (!tale.sceneItem(s).isThere()) {
            return hostFinding(NOTHING);
        }
        int wrong = tape.readNeed();
        if (wrong != Tape.FINE) {
            return WRONG - wrong;
        }
        Item choice = tale.choiceItem(s, k);
        int was = choice.isThere() ? 1 : 0;
        choice.become(to);
        choice.putNeed(tape.need);
        webIsFresh = false;
        return was;
    }

    public int gives(int s, int k, int give, int take) {
        if (!isScene(s) || !isChoice(k) || !isSet(give) || !isSet(take) || (give & take) != 0) {
            return BAD;
        }
        Item choice = tale.choiceItem(s, k);
        if (!choice.isThere()) {
            return hostFinding(NOTHING);
        }
        choice.more = give;
        choice.less = take;
        webIsFresh = false;
        return 1;
    }

    public int line(int s, int k, int words, int voice) {
        if (!isScene(s) || !isChoice(k) || words < 0 || words > MOST_WORDS || !isVoice(voice)) {
            return BAD;
        }
        Item choice = tale.choiceItem(s, k);
        if (!choice.isThere()) {
            return hostFinding(NOTHING);
        }
        choice.wordCount = words;
        choice.voice = voice;
        return 1;
    }

    public int drop(int s, int k) {
        if (!isScene(s) || !isChoice(k)) {
            return BAD;
        }
        Item choice = tale.choiceItem(s, k);
        int was = choice.isThere() ? 1 : 0;
        choice.become(ABSENT);
        webIsFresh = false;
        return was;
    }

    public int start(int set) {
        if (!isSet(set)) {
            return BAD;
        }
        Item start = tale.startItem();
        int was = start.main;
        start.main = set;
        webIsFresh = false;
        return was;
    }

    public int of(int s, int what) {
        if (!isScene(s) || what < 0 || what > 5) {
            return BAD;
        }
        Item scene = tale.sceneItem(s);
        if (what == 0) {
            return scene.main;
        }
        if (what == 1) {
            return isCut(s) ? 1 : 0;
        }
        if (!scene.isThere()) {
            return hostFinding(NOTHING);
        }
        switch (what) {
            case 2:
                return scene.reads;
            case 3:
                return scene.countHolding();
            case 4:
                return scene.less;
            default:
                return tale.choiceBits(s);
        }
    }

    public int about(int s, int k, int what) {
        if (!isScene(s) || !isChoice(k) || what < 0 || what > 6) {
            return BAD;
        }
        Item choice = tale.choiceItem(s, k);
        if (!choice.isThere()) {
            return hostFinding(NOTHING);
        }
        switch (what) {
            case 0:
                return choice.main;
            case 1:
                return choice.reads;
            case 2:
                return choice.countHolding();
            case 3:
                return choice.more;
            case 4:
                return choice.less;
            case 5:
                return choice.wordCount;
            default:
                return choice.voice;
        }
    }

    // ---- what can be come to

    public int states(int what) {
        if (what < 0 || what > 4) {
            return BAD;
        }
        freshenWeb();
        switch (what) {
            case 0:
                return web.size;
            case 1:
                return countEndings();
            case 2:
                return countStuck();
            case 3:
                return countHopeless();
            default:
                tale.findLive(liveFacts);
                return web.countPairs(liveFacts);
        }
    }

    private int countEndings() {
        int many = 0;
        for (int i = 0; i < web.size; i++) {
            if (tale.isEndingState(web.order[i])) {
                many++;
            }
        }
        return many;
    }

    private int countStuck() {
        int many = 0;
        for (int i = 0; i < web.size; i++) {
            int state = web.order[i];
            if (!tale.isEndingState(state) && !web.leadsOn(state)) {
                many++;
            }
        }
        return many;
    }

    private int countHopeless() {
        int many = 0;
        for (int i = 0; i < web.size; i++) {
            if (isHopeless(web.order[i])) {
                many++;
            }
        }
        return many;
    }

    private boolean isHopeless(int state) {
        return web.marks[state] == 0;
    }

    public int reached(int s) {
        if (!isScene(s)) {
            return BAD;
        }
        freshenWeb();
        int many = 0;
        for (int i = 0; i < web.size; i++) {
            if (sceneOf(web.order[i]) == s) {
                many++;
            }
        }
        return many;
    }

    public int live(int s) {
        if (!isScene(s)) {
            return BAD;
        }
        if (!tale.sceneItem(s).isThere()) {
            return hostFinding(NOTHING);
        }
        tale.findLive(liveFacts);
        return liveFacts[s];
    }

    public int open(int s, int k) {
        if (!isScene(s) || !isChoice(k)) {
            return BAD;
        }
        if (!tale.choiceItem(s, k).isThere()) {
            return hostFinding(NOTHING);
        }
        freshenWeb();
        int many = 0;
        for (int i = 0; i < web.size; i++) {
            int state = web.order[i];
            if (sceneOf(state) == s && web.next[state * CHOICES + k] != NOWHERE) {
                many++;
            }
        }
        return many;
    }

    public int trap(int i) {
        if (i < 0) {
            return NONE;
        }
        freshenWeb();
        findTraps();
        int left = i;
        for (int s = 0; s < SCENES; s++) {
            for (int k = 0; k < CHOICES; k++) {
                if ((trapBits[s] >> k & 1) == 0) {
                    continue;
                }
                if (left == 0) {
                    return 10 * s + k;
                }
                left--;
            }
        }
        return NONE;
    }

    private void findTraps() {
        for (int s = 0; s < SCENES; s++) {
            trapBits[s] = 0;
        }
        for (int i = 0; i < web.size; i++) {
            int state = web.order[i];
            if (!isHopeless(state)) {
                trapBits[sceneOf(state)] |= trapsOf(state);
            }
        }
    }

    private int trapsOf(int state) {
        int bits = 0;
        for (int k = 0; k < CHOICES; k++) {
            int to = web.next[state * CHOICES + k];
            if (to != NOWHERE && isHopeless(to)) {
                bits |= 1 << k;
            }
        }
        return bits;
    }

    public int way(int s) {
        if (!isScene(s)) {
            return BAD;
        }
        freshenWeb();
        int state = web.firstOf(s);
        return state == NOWHERE ? NONE : web.distance[state];
    }

    public int step(int s, int i) {
        if (!isScene(s) || i < 0) {
            return BAD;
        }
        freshenWeb();
        int state = web.firstOf(s);
        return state == NOWHERE ? NONE : web.choiceOfWay(state, i);
    }

    public long ways(int n) {
        if (n < 0 || n > LONGEST_ROW) {
            return BAD;
        }
        freshenWeb();
        web.countRows(n);
        long many = 0;
        for (int i = 0; i < web.size; i++) {
            int state = web.order[i];
            if (tale.isEndingState(state)) {
                many += web.rows[state];
            }
        }
        return many;
    }

    private void freshenWeb() {
        if (webIsFresh) {
            return;
        }
        weaveFromBeginning(cuts);
        for (int i = 0; i < web.size; i++) {
            int state = web.order[i];
            web.marks[state] = tale.isEndingState(state) ? 1 : 0;
        }
        web.spreadMark(1);
        webIsFresh = true;
    }

    private void weaveFromBeginning(int cutScenes) {
        webIsFresh = false;
        web.clear();
        if (tale.hasBeginning(cutScenes)) {
            web.come(tale.beginningWith(0), NOWHERE);
        }
        web.weave(tale, cutScenes);
    }

    // ---- cuts

    public int cut(int s, boolean is) {
        if (!isScene(s)) {
            return BAD;
        }
        int was = isCut(s) ? 1 : 0;
        if (is) {
            cuts |= 1 << s;
        } else {
            cuts &= ~(1 << s);
        }
        webIsFresh = false;
        return was;
    }

    public int mend() {
        freshenWeb();
        int still = web.scenesCome();
        weaveFromBeginning(0);
        int wanted = web.scenesCome() & ~cuts;
        if ((wanted & ~still) == 0) {
            return 0;
        }
        if (!tale.hasBeginning(cuts)) {
            return NONE;
        }
        weaveFromEachMending();
        for (int i = 0; i < web.size; i++) {
            int state = web.order[i];
            web.marks[state] = wanted & 1 << sceneOf(state);
        }
        for (int s = 0; s < SCENES; s++) {
            web.spreadMark(1 << s);
        }
        return leastMending(wanted);
    }

    /** One web for all sets that could mend: weaving one for each of them would cost up to 256 times as much. */
    private void weaveFromEachMending() {
        web.clear();
        for (int set = 0; set < SETS; set++) {
            web.come(tale.beginningWith(set), NOWHERE);
        }
        web.weave(tale, cuts);
    }

    private int leastMending(int wanted) {
        int best = NONE;
        int fewest = FACTS + 1;
        for (int set = 0; set < SETS; set++) {
            boolean mends = web.marks[tale.beginningWith(set)] == wanted;
            if (mends && Integer.bitCount(set) < fewest) {
                best = set;
                fewest = Integer.bitCount(set);
            }
        }
        return best;
    }

    // ---- sheets, sessions

    public int sheet(int s, int sort, int n) {
        if (!isSheet(s) || !isSort(sort) || n > SHEET_ROOM) {
            return BAD;
        }
        if (n < 0) {
            return hostFinding(SIZE);
        }
        sheets[s].lay(sort, n);
        return n;
    }

    public int write(int s, int i, int v) {
        if (!isSheet(s)) {
            return BAD;
        }
        Sheet sheet = sheets[s];
        if (sheet.isMissing()) {
            return hostFinding(NOTHING);
        }
        if (!sheet.hasPlace(i)) {
            return hostFinding(PLACE);
        }
        int was = sheet.numbers[i];
        sheet.numbers[i] = sheet.narrowed(v);
        return was;
    }

    public int words(int scene, int sheet, int sort, int i) {
        if (!isScene(scene) || !isSheet(sheet) || !isSort(sort)) {
            return BAD;
        }
        Sheet from = sheets[sheet];
        if (!tale.sceneItem(scene).isThere() || from.isMissing()) {
            return hostFinding(NOTHING);
        }
        if (from.sort != sort) {
            return hostFinding(SORT);
        }
        for (int k = 0; k < CHOICES; k++) {
            if (tale.choiceItem(scene, k).isThere() && !from.hasPlace(i + k)) {
                return hostFinding(PLACE);
            }
        }
        return takeWords(scene, from, i);
    }

    private int takeWords(int s, Sheet from, int i) {
        int bounded = 0;
        for (int k = 0; k < CHOICES; k++) {
            Item choice = tale.choiceItem(s, k);
            if (choice.isThere() && from.hasPlace(i + k)) {
                int asked = from.numbers[i + k];
                choice.wordCount = Math.max(0, Math.min(MOST_WORDS, asked));
                bounded += choice.wordCount == asked ? 0 : 1;
            }
        }
        return bounded;
    }

    public int sessions(int voice, int most) {
        if (!isVoice(voice) || most < 1 || most > MOST_SESSION) {
            return BAD;
        }
        int many = 0;
        int room = 0;
        for (int s = 0; s < SCENES; s++) {
            for (int k = 0; k < CHOICES; k++) {
                Item choice = tale.choiceItem(s, k);
                if (!choice.isThere() || choice.voice != voice || choice.wordCount == 0) {
                    continue;
                }
                if (choice.wordCount > most) {
                    return NONE;
                }
                if (choice.wordCount > room) {
                    many++;
                    room = most;
                }
                room -= choice.wordCount;
            }
        }
        return many;
    }

    // ---- play

    public int tell(int v) {
        if (waitingCount >= MOST_WAITING) {
            return BAD;
        }
        waiting[waitingCount] = v;
        waitingCount++;
        return waitingCount;
    }

    public int play() {
        int told = waitingCount;
        waitingCount = 0;
        if (!tale.hasBeginning(cuts)) {
            return NONE;
        }
        playedTo = tale.beginningWith(0);
        for (int i = 0; i < told; i++) {
            int k = waiting[i];
            int to = isChoice(k) ? tale.leadsTo(playedTo, k, cuts) : NOWHERE;
            if (to == NOWHERE) {
                return i;
            }
            playedTo = to;
        }
        return told;
    }

    public int at(int what) {
        if (playedTo == NOWHERE) {
            return NONE;
        }
        if (what == 0) {
            return sceneOf(playedTo);
        }
        return what == 1 ? factsOf(playedTo) : BAD;
    }

    // ---- hands

    public int keep(int which) {
        if (which != 0 && which != 1) {
            return BAD;
        }
        if (which == 0) {
            base.copyFrom(tale);
            baseKept = true;
        } else {
            other.copyFrom(tale);
            otherKept = true;
        }
        return 1;
    }

    public int back(int which) {
        if (which != 0 && which != 1) {
            return BAD;
        }
        if (!(which == 0 ? baseKept : otherKept)) {
            return hostFinding(NOTHING);
        }
        tale.copyFrom(which == 0 ? base : other);
        webIsFresh = false;
        return 1;
    }

    public int melt() {
        if (!baseKept || !otherKept) {
            return hostFinding(NOTHING);
        }
        if (clashingItem(0) != NONE) {
            return CLASHED;
        }
        int changed = 0;
        for (int i = 0; i < ITEMS; i++) {
            Item theirs = other.items[i];
            if (!theirs.sameAs(base.items[i]) && !theirs.sameAs(tale.items[i])) {
                tale.items[i].copyFrom(theirs);
                changed++;
            }
        }
        tale.removeLooseChoices();
        webIsFresh = false;
        return changed;
    }

    public int clash(int i) {
        if (!baseKept || !otherKept) {
            return hostFinding(NOTHING);
        }
        return i < 0 ? NONE : clashingItem(i);
    }

    private int clashingItem(int nth) {
        int left = nth;
        for (int i = 0; i < ITEMS; i++) {
            if (!isClashing(tale.items[i], other.items[i], base.items[i])) {
                continue;
            }
            if (left == 0) {
                return i;
            }
            left--;
        }
        return NONE;
    }

    private static boolean isClashing(Item ours, Item theirs, Item before) {
        return !ours.sameAs(theirs) && !ours.sameAs(before) && !theirs.sameAs(before);
    }

    public int count(int what) {
        switch (what) {
            case 0:
                return tale.countScenes();
            case 1:
                return tale.countChoices();
            case 2:
                return tape.length;
            case 3:
                return waitingCount;
            case 4:
                return hostFindings;
            case 5:
                return tale.startItem().main;
            default:
                return BAD;
        }
    }

    private int hostFinding(int finding) {
        hostFindings++;
        return finding;
    }

    private boolean isCut(int s) {
        return (cuts >> s & 1) != 0;
    }

    private static boolean isScene(int s) {
        return s >= 0 && s < SCENES;
    }

    private static boolean isChoice(int k) {
        return k >= 0 && k < CHOICES;
    }

    private static boolean isSet(int set) {
        return set >= 0 && set < SETS;
    }

    private static boolean isVoice(int voice) {
        return voice >= 0 && voice < VOICES;
    }

    private static boolean isSheet(int s) {
        return s >= 0 && s < SHEETS;
    }

    private static boolean isSort(int sort) {
        return sort >= 0 && sort < SORTS;
    }

    private static int stateOf(int scene, int facts) {
        return scene * SETS + facts;
    }

    private static int sceneOf(int state) {
        return state / SETS;
    }

    private static int factsOf(int state) {
        return state % SETS;
    }

    /** The bytes that were fed, and the reader of the NEED whose TEXT they are. */
    private static final class Tape {
        static final int ROOM = 100;
        static final int FINE = -1;
        private static final int LONGEST_TEXT = 60;
        private static final int DEEPEST = 12;
        private static final int END = -1;
        /** For facts a to f: in which of 64 sets that follow one another each of them is. */
        private static final long[] LOW_FACTS = {
            0xAAAAAAAAAAAAAAAAL, 0xCCCCCCCCCCCCCCCCL, 0xF0F0F0F0F0F0F0F0L,
            0xFF00FF00FF00FF00L, 0xFFFF0000FFFF0000L, 0xFFFFFFFF00000000L
        };

        private final byte[] signs = new byte[ROOM];
        int length;
        /** What readNeed() read: bit (set % 64) of need[set / 64] says whether it holds for a set. */
        final long[] need = new long[NEED_LONGS];
        private int place;
        private int wrong;
        /** Which of the four longs of the need is being read: each is read on its own, so that no rows are made. */
        private int part;

        void add(byte sign) {
            if (length < ROOM) {
                signs[length] = sign;
                length++;
            }
        }

        /** FINE, or the place that is WRONG. */
        int readNeed() {
            if (length > LONGEST_TEXT) {
                return LONGEST_TEXT;
            }
            for (int i = 0; i < NEED_LONGS; i++) {
                part = i;
                place = 0;
                wrong = FINE;
                long bits = length == 0 ? -1L : readEither(0);
                if (wrong == FINE && place < length) {
                    wrong = place;
                }
                if (wrong != FINE) {
                    return wrong;
                }
                need[i] = bits;
            }
            return FINE;
        }

        private long readEither(int depth) {
            long bits = readBoth(depth);
            for (int i = 0; i < LONGEST_TEXT && wrong == FINE && sign() == '|'; i++) {
                place++;
                bits |= readBoth(depth);
            }
            return bits;
        }

        private long readBoth(int depth) {
            long bits = readOne(depth);
            for (int i = 0; i < LONGEST_TEXT && wrong == FINE && sign() == '&'; i++) {
                place++;
                bits &= readOne(depth);
            }
            return bits;
        }

        private long readOne(int depth) {
            int sign = sign();
            if (sign >= 'a' && sign <= 'h') {
                place++;
                return factBits(sign - 'a');
            }
            if (sign == '0' || sign == '1') {
                place++;
                return sign == '1' ? -1L : 0L;
            }
            if ((sign != '!' && sign != '(') || depth >= DEEPEST) {
                wrong = place;
                return 0L;
            }
            place++;
            return sign == '!' ? ~readOne(depth + 1) : readClosed(depth + 1);
        }

        private long readClosed(int depth) {
            long bits = readEither(depth);
            if (wrong == FINE && sign() != ')') {
                wrong = place;
            }
            if (wrong == FINE) {
                place++;
            }
            return bits;
        }

        private int sign() {
            return place < length ? signs[place] : END;
        }

        private long factBits(int fact) {
            if (fact >= 0 && fact < LOW_FACTS.length) {
                return LOW_FACTS[fact];
            }
            return (part >> (fact - LOW_FACTS.length) & 1) != 0 ? -1L : 0L;
        }
    }

    /** A SCENE, a CHOICE, or THE START: all have the same parts, so that two hands' ITEMS are told apart in one way. */
    private static final class Item {
        /** The KIND of a SCENE, the TO of a CHOICE, THE START itself; ABSENT: not there. */
        int main;
        /** What a CHOICE GIVES. */
        int more;
        /** What a CHOICE TAKES, or the SET of a LOSS. */
        int less;
        int wordCount;
        int voice;
        private final long[] need = new long[NEED_LONGS];
        /** The FACTS that the NEED READS. */
        int reads;

        Item(int main) {
            become(main);
        }

        boolean isThere() {
            return main != ABSENT;
        }

        boolean isEnding() {
            return main == ENDING || main == PRIZE;
        }

        void become(int newMain) {
            main = newMain;
            more = 0;
            less = 0;
            wordCount = 0;
            voice = 0;
            reads = 0;
            for (int i = 0; i < NEED_LONGS; i++) {
                need[i] = -1L;
            }
        }

        void copyFrom(Item model) {
            main = model.main;
            more = model.more;
            less = model.less;
            wordCount = model.wordCount;
            voice = model.voice;
            reads = model.reads;
            for (int i = 0; i < NEED_LONGS; i++) {
                need[i] = model.need[i];
            }
        }

        boolean sameAs(Item them) {
            for (int i = 0; i < NEED_LONGS; i++) {
                if (need[i] != them.need[i]) {
                    return false;
                }
            }
            return main == them.main && more == them.more && less == them.less
                && wordCount == them.wordCount && voice == them.voice;
        }

        void putNeed(long[] bits) {
            for (int i = 0; i < NEED_LONGS && i < bits.length; i++) {
                need[i] = bits[i];
            }
            reads = 0;
            for (int fact = 0; fact < FACTS; fact++) {
                if (readsFact(fact)) {
                    reads |= 1 << fact;
                }
            }
        }

        private boolean readsFact(int fact) {
            int bit = 1 << fact;
            for (int i = 0; i < NEED_LONGS; i++) {
                // A fact past the sixth parts whole longs, a lesser one the bits within each.
                long with = bit < 64 ? need[i] >>> bit : need[i | bit / 64];
                long counted = bit < 64 ? ~Tape.LOW_FACTS[fact] : -1L;
                if (((need[i] ^ with) & counted) != 0) {
                    return true;
                }
            }
            return false;
        }

        boolean holdsFor(int facts) {
            return (need[facts / 64] >>> (facts % 64) & 1L) != 0;
        }

        int countHolding() {
            int many = 0;
            for (int i = 0; i < NEED_LONGS; i++) {
                many += Long.bitCount(need[i]);
            }
            return many;
        }
    }

    /** All ITEMS, in the order of their numbers. */
    private static final class Tale {
        final Item[] items = new Item[ITEMS];

        Tale() {
            for (int i = 0; i < START_ITEM; i++) {
                items[i] = new Item(ABSENT);
            }
            items[START_ITEM] = new Item(0);
        }

        Item sceneItem(int s) {
            return items[s * ITEMS_OF_SCENE];
        }

        Item choiceItem(int s, int k) {
            return items[s * ITEMS_OF_SCENE + 1 + k];
        }

        Item startItem() {
            return items[START_ITEM];
        }

        void copyFrom(Tale model) {
            for (int i = 0; i < ITEMS; i++) {
                items[i].copyFrom(model.items[i]);
            }
        }

        void removeChoices(int s) {
            for (int k = 0; k < CHOICES; k++) {
                choiceItem(s, k).become(ABSENT);
            }
        }

        void removeLooseChoices() {
            for (int s = 0; s < SCENES; s++) {
                if (!sceneItem(s).isThere()) {
                    removeChoices(s);
                }
            }
        }

        int choiceBits(int s) {
            int bits = 0;
            for (int k = 0; k < CHOICES; k++) {
                if (choiceItem(s, k).isThere()) {
                    bits |= 1 << k;
                }
            }
            return bits;
        }

        int countScenes() {
            int many = 0;
            for (int s = 0; s < SCENES; s++) {
                if (sceneItem(s).isThere()) {
                    many++;
                }
            }
            return many;
        }

        int countChoices() {
            int many = 0;
            for (int s = 0; s < SCENES; s++) {
                many += Integer.bitCount(choiceBits(s));
            }
            return many;
        }

        boolean hasBeginning(int cutScenes) {
            return sceneItem(0).isThere() && (cutScenes & 1) == 0;
        }

        /** THE BEGINNING, if THE START had these FACTS too. */
        int beginningWith(int facts) {
            return stateOf(0, startItem().main | facts);
        }

        boolean isEndingState(int state) {
            return sceneItem(sceneOf(state)).isEnding();
        }

        /** The STATE that a CHOICE leads to from a STATE, NOWHERE if it is not OPEN there. */
        int leadsTo(int state, int k, int cutScenes) {
            int from = sceneOf(state);
            int facts = factsOf(state);
            Item choice = choiceItem(from, k);
            if (!choice.isThere() || sceneItem(from).isEnding() || !choice.holdsFor(facts)) {
                return NOWHERE;
            }
            int to = choice.main;
            Item goal = sceneItem(to);
            int behind = facts & ~choice.less | choice.more;
            boolean isCut = (cutScenes >> to & 1) != 0;
            if (!goal.isThere() || isCut || !goal.holdsFor(behind)) {
                return NOWHERE;
            }
            return stateOf(to, behind & ~goal.less);
        }

        /** Each sweep but the last one adds a fact to some SCENE's set, so that bounds the sweeps. */
        void findLive(int[] sets) {
            for (int s = 0; s < SCENES; s++) {
                sets[s] = 0;
            }
            boolean grows = true;
            for (int sweep = 0; grows && sweep <= SCENES * FACTS; sweep++) {
                grows = false;
                for (int s = SCENES - 1; s >= 0; s--) {
                    int found = liveAt(s, sets);
                    grows |= found != sets[s];
                    sets[s] = found;
                }
            }
        }

        private int liveAt(int s, int[] sets) {
            int found = 0;
            if (sceneItem(s).isEnding()) {
                return found;
            }
            for (int k = 0; k < CHOICES; k++) {
                Item choice = choiceItem(s, k);
                if (choice.isThere() && sceneItem(choice.main).isThere()) {
                    Item goal = sceneItem(choice.main);
                    int behind = goal.reads | sets[choice.main] & ~goal.less;
                    found |= choice.reads | behind & ~(choice.more | choice.less);
                }
            }
            return found;
        }
    }

    /** The STATES that can be come to from some first ones, and the OPEN CHOICES between them. */
    private static final class Web {
        private static final int UNSEEN = -2;

        /** The STATES, those of the shortest ways first, of as short ones the one of lesser CHOICES first. */
        final int[] order = new int[STATES];
        int size;
        /** By which step (6 times a STATE, and the CHOICE) a STATE was first come to. */
        private final int[] via = new int[STATES];
        final int[] distance = new int[STATES];
        /** Where each step leads, NOWHERE if the CHOICE is not OPEN. */
        final int[] next = new int[STEPS];
        /** The last step found that leads to a STATE; link has the one found before it. */
        private final int[] lastInto = new int[STATES];
        private final int[] link = new int[STEPS];
        final int[] marks = new int[STATES];
        private final int[] queue = new int[STATES];
        /** All false between calls. */
        private final boolean[] flags = new boolean[STATES];
        long[] rows = new long[STATES];
        private long[] longerRows = new long[STATES];

        Web() {
            for (int i = 0; i < STATES; i++) {
                via[i] = UNSEEN;
            }
        }

        void clear() {
            for (int i = 0; i < size; i++) {
                via[order[i]] = UNSEEN;
            }
            size = 0;
        }

        /** A STATE that was not come to yet is come to by a step; NOWHERE: by none. */
        void come(int state, int step) {
            if (via[state] != UNSEEN || size >= STATES) {
                return;
            }
            via[state] = step;
            distance[state] = step == NOWHERE ? 0 : distance[step / CHOICES] + 1;
            lastInto[state] = NOWHERE;
            order[size] = state;
            size++;
        }

        void weave(Tale tale, int cutScenes) {
            for (int i = 0; i < size && i < STATES; i++) {
                for (int k = 0; k < CHOICES; k++) {
                    int step = order[i] * CHOICES + k;
                    int to = tale.leadsTo(order[i], k, cutScenes);
                    next[step] = to;
                    if (to != NOWHERE) {
                        come(to, step);
                        link[step] = lastInto[to];
                        lastInto[to] = step;
                    }
                }
            }
        }

        /** Each STATE from which one with a mark can be come to gets that mark. */
        void spreadMark(int mark) {
            int many = 0;
            for (int i = 0; i < size; i++) {
                if ((marks[order[i]] & mark) != 0) {
                    queue[many] = order[i];
                    many++;
                }
            }
            for (int i = 0; i < many && i < STATES; i++) {
                many = markStatesAhead(queue[i], mark, many);
            }
        }

        /** How many STATES are in the queue then: one comes to it when it gets the mark, and so only once. */
        private int markStatesAhead(int state, int mark, int many) {
            int queued = many;
            int step = lastInto[state];
            for (int i = 0; step != NOWHERE && i < STEPS; i++) {
                int from = step / CHOICES;
                if ((marks[from] & mark) == 0 && queued < STATES) {
                    marks[from] |= mark;
                    queue[queued] = from;
                    queued++;
                }
                step = link[step];
            }
            return queued;
        }

        boolean leadsOn(int state) {
            for (int k = 0; k < CHOICES; k++) {
                if (next[state * CHOICES + k] != NOWHERE) {
                    return true;
                }
            }
            return false;
        }

        int scenesCome() {
            int bits = 0;
            for (int i = 0; i < size; i++) {
                bits |= 1 << sceneOf(order[i]);
            }
            return bits;
        }

        int firstOf(int s) {
            for (int i = 0; i < size; i++) {
                if (sceneOf(order[i]) == s) {
                    return order[i];
                }
            }
            return NOWHERE;
        }

        /** The i-th CHOICE of the way by which a STATE was first come to, -1 behind the last one. */
        int choiceOfWay(int state, int i) {
            int steps = distance[state];
            if (i >= steps) {
                return -1;
            }
            int at = state;
            for (int n = steps - 1; n > i; n--) {
                at = via[at] / CHOICES;
            }
            return via[at] % CHOICES;
        }

        /** Different pairs of a SCENE and those FACTS of the STATES that are in the set of the SCENE. */
        int countPairs(int[] sets) {
            int many = 0;
            for (int i = 0; i < size; i++) {
                int pair = pairOf(order[i], sets);
                if (!flags[pair]) {
                    flags[pair] = true;
                    many++;
                }
            }
            for (int i = 0; i < size; i++) {
                flags[pairOf(order[i], sets)] = false;
            }
            return many;
        }

        private static int pairOf(int state, int[] sets) {
            int scene = sceneOf(state);
            return stateOf(scene, factsOf(state) & sets[scene]);
        }

        /** rows[state] is then how many rows of n steps lead to a STATE from the first one. */
        void countRows(int n) {
            for (int i = 0; i < size; i++) {
                rows[order[i]] = i == 0 ? 1 : 0;
            }
            for (int length = 0; length < n; length++) {
                for (int i = 0; i < size; i++) {
                    longerRows[order[i]] = 0;
                }
                for (int i = 0; i < size; i++) {
                    passRowsOn(order[i]);
                }
                long[] shorter = rows;
                rows = longerRows;
                longerRows = shorter;
            }
        }

        private void passRowsOn(int state) {
            if (rows[state] == 0) {
                return;
            }
            for (int k = 0; k < CHOICES; k++) {
                int to = next[state * CHOICES + k];
                if (to != NOWHERE) {
                    longerRows[to] += rows[state];
                }
            }
        }
    }

    /** A row of numbers of a SORT; its room is made once, whatever its size. */
    private static final class Sheet {
        private static final int MISSING = -1;

        int sort;
        private int size = MISSING;
        final int[] numbers = new int[SHEET_ROOM];

        boolean isMissing() {
            return size == MISSING;
        }

        boolean hasPlace(int i) {
            return i >= 0 && i < size && i < numbers.length;
        }

        void lay(int newSort, int newSize) {
            sort = newSort;
            size = newSize;
            for (int i = 0; i < numbers.length; i++) {
                numbers[i] = 0;
            }
        }

        int narrowed(int v) {
            if (sort == 0) {
                return (byte) v;
            }
            return sort == 1 ? (short) v : v;
        }
    }
}
