import java.util.Arrays;

/** Words found in torn streams; the promises stand in the document, DOC.md. */
public final class TornStreams {
    public static final int BAD = -1, STATE = -2, FULL = -3, NONE = -9;

    private static final int WORDS = 6, WORD_LENGTH = 8, LETTERS = 26;
    private static final int NODES = WORDS * WORD_LENGTH + 1;
    private static final int TEXT_LENGTH = 40, LOWEST_BYTE = 32, HIGHEST_BYTE = 126;
    private static final int WRONG_WORD = -10;

    private static final int KEYS = 100, OFFSETS = 1000, TOLD_OFFSETS = 1101;
    // No byte has an index from here on, so no flow goes farther.
    private static final int BEHIND_ALL = OFFSETS + TEXT_LENGTH;
    private static final int FLOWS = 4, PIECES = 6, LOGGED = 10;
    private static final int FINDS = 30, STATES = 4;
    // As it is a power of two, a number and this mask make a place, whatever the number is.
    private static final int RECENT = 8, RECENT_MASK = RECENT - 1;
    private static final int NOWHERE = -1;

    private static final int POLICY = 0, FLAGS = 1, BOUND = 2;
    private static final int[] LOWEST_SETTING = {0, 0, 1};
    private static final int[] HIGHEST_SETTING = {3, 15, 40};
    private static final int POLICIES = 4, FIRST_BOUND = 10;
    private static final int TAKE_LAST = 1, TAKE_SMALLEST = 2, TAKE_LONGEST = 3;
    private static final int LOWER = 1, PERCENTS = 2, ONE_BLANK = 4, NO_MARKS = 8;

    private static final int NODE_PROPERTIES = 5, FLOW_PROPERTIES = 18, FIND_PROPERTIES = 4, TOLD = 12;
    private static final int DIGEST_START = 12572, DIGEST_OFFSETS = 50;

    private final byte[] text = new byte[TEXT_LENGTH];
    private int textLength = 0;
    private final Automaton automaton = new Automaton();
    private State now = new State(automaton, new Finds());
    // Made once and used again, so that no call makes an object.
    private final State trial = new State(automaton, new Finds());
    private final Flow rehearsal = new Flow(automaton, new Finds());
    private final State[] past = new State[STATES];
    private int pastCount = 0;

    public TornStreams() {
        for (int i = 0; i < STATES; i++) {
            past[i] = new State(automaton, new Finds());
        }
    }

    // ---- words

    public int type(int c) {
        if (c < LOWEST_BYTE || c > HIGHEST_BYTE) {
            return BAD;
        }
        if (textLength < 0 || textLength >= TEXT_LENGTH) {
            return FULL;
        }
        text[textLength] = (byte) c;
        textLength++;
        return textLength;
    }

    public int clear() {
        int had = textLength;
        textLength = 0;
        return had;
    }

    public int define(int w) {
        if (!isWord(w)) {
            return BAD;
        }
        int wrong = firstWrongByte();
        if (wrong != NOWHERE) {
            return WRONG_WORD - wrong;
        }
        record();
        now.words.put(w, text, textLength);
        wordsChanged();
        return automaton.size;
    }

    public int forget(int w) {
        if (!isWord(w)) {
            return BAD;
        }
        if (!now.words.isDefined(w)) {
            return STATE;
        }
        record();
        now.words.remove(w);
        wordsChanged();
        return automaton.size;
    }

    public int letter(int w, int i) {
        if (!isWord(w) || i < 0) {
            return BAD;
        }
        return now.words.isDefined(w) ? now.words.letterAt(w, i) : STATE;
    }

    public int node(int node, int what) {
        if (!automaton.has(node) || what < 0 || what >= NODE_PROPERTIES) {
            return BAD;
        }
        if (node == 0 && what >= 1 && what <= 3) {
            return NONE;
        }
        switch (what) {
            case 0: return automaton.lengths[node];
            case 1: return automaton.parents[node];
            case 2: return automaton.lastLetters[node];
            case 3: return automaton.fails[node];
            default: return automaton.wordSets[node];
        }
    }

    public int next(int node, int letter) {
        if (!automaton.has(node) || letter < 0 || letter >= LETTERS) {
            return BAD;
        }
        return automaton.nextOf(node, letter);
    }

    // ---- flows

    public int set(int what, int v) {
        if (what < POLICY || what > BOUND || v < LOWEST_SETTING[what] || v > HIGHEST_SETTING[what]) {
            return BAD;
        }
        record();
        int before = now.settings[what];
        now.settings[what] = v;
        return before;
    }

    public int segment(int key, int offset) {
        int error = segmentError(key, offset);
        if (error != 0) {
            return error;
        }
        record();
        return handled(now, key, offset);
    }

    public int finish(int key) {
        if (!isKey(key)) {
            return BAD;
        }
        int place = now.placeOf(key);
        if (place == NOWHERE) {
            return STATE;
        }
        record();
        int before = now.finds.made();
        now.flows[place].end();
        now.remove(place);
        return now.finds.made() - before;
    }

    // ---- what is told

    public int flow(int i) {
        if (i < 0) {
            return BAD;
        }
        return i < now.flowCount && i < FLOWS ? now.flows[i].key : NONE;
    }

    public int property(int key, int what) {
        if (!isKey(key) || what < 0 || what >= FLOW_PROPERTIES) {
            return BAD;
        }
        int place = now.placeOf(key);
        return place == NOWHERE ? STATE : now.flows[place].tell(what);
    }

    public int byteAt(int key, int offset) {
        if (!isKey(key) || offset < 0 || offset >= TOLD_OFFSETS) {
            return BAD;
        }
        int place = now.placeOf(key);
        return place == NOWHERE ? STATE : now.flows[place].chosenByte(offset);
    }

    public long possible(int key) {
        if (!isKey(key)) {
            return BAD;
        }
        int place = now.placeOf(key);
        return place == NOWHERE ? STATE : now.flows[place].reader.possible;
    }

    public int read(int key, int i) {
        if (!isKey(key) || i < 0 || i >= RECENT) {
            return BAD;
        }
        int place = now.placeOf(key);
        return place == NOWHERE ? STATE : now.flows[place].reader.recentCharacter(i);
    }

    public int find(int i, int what) {
        if (i < 0 || what < 0 || what >= FIND_PROPERTIES) {
            return BAD;
        }
        return now.finds.tell(i, what);
    }

    public int told(int what) {
        switch (what) {
            case 0: return now.words.definedSet();
            case 1: return automaton.size;
            case 2: return now.settings[POLICY];
            case 3: return now.settings[FLAGS];
            case 4: return now.settings[BOUND];
            case 5: return now.flowCount;
            case 6: return now.finds.remembered;
            case 7: return now.finds.sureCount;
            case 8: return now.finds.doubtfulCount;
            case 9: return now.forgottenCount;
            case 10: return pastCount;
            case 11: return textLength;
            default: return BAD;
        }
    }

    // ---- what would be

    public int ifSegment(int key, int offset) {
        int error = segmentError(key, offset);
        if (error != 0) {
            return error;
        }
        trial.copyFrom(now);
        return handled(trial, key, offset);
    }

    public int replay(int key, int policy) {
        if (!isKey(key) || policy < 0 || policy >= POLICIES) {
            return BAD;
        }
        int place = now.placeOf(key);
        return place == NOWHERE ? STATE : wordsBy(now.flows[place], policy);
    }

    public int evasions(int key) {
        if (!isKey(key)) {
            return BAD;
        }
        int place = now.placeOf(key);
        if (place == NOWHERE) {
            return STATE;
        }
        int bySome = 0;
        int byEach = (1 << WORDS) - 1;
        for (int policy = 0; policy < POLICIES; policy++) {
            int found = wordsBy(now.flows[place], policy);
            bySome |= found;
            byEach &= found;
        }
        return bySome & ~byEach;
    }

    public int nearest(int key) {
        if (!isKey(key)) {
            return BAD;
        }
        int place = now.placeOf(key);
        return place == NOWHERE ? STATE : automaton.fewestLettersToWord(now.flows[place].reader.node);
    }

    // ---- the whole

    public int undo() {
        if (pastCount <= 0 || pastCount > STATES) {
            return STATE;
        }
        pastCount--;
        State latest = past[pastCount];
        past[pastCount] = now;
        now = latest;
        automaton.build(now.words);
        return pastCount;
    }

    public long digest() {
        long h = DIGEST_START;
        for (int what = 0; what < TOLD; what++) {
            h = mixed(h, told(what));
        }
        for (int n = 0; n < automaton.size; n++) {
            for (int what = 0; what < NODE_PROPERTIES; what++) {
                h = mixed(h, node(n, what));
            }
        }
        for (int i = 0; i < now.flowCount && i < FLOWS; i++) {
            h = mixedWithFlow(h, now.flows[i]);
        }
        for (int i = 0; i < now.finds.remembered; i++) {
            for (int what = 0; what < FIND_PROPERTIES; what++) {
                h = mixed(h, now.finds.tell(i, what));
            }
        }
        return h;
    }

    private static long mixedWithFlow(long start, Flow flow) {
        long h = mixed(start, flow.key);
        for (int what = 0; what < FLOW_PROPERTIES; what++) {
            h = mixed(h, flow.tell(what));
        }
        h = mixed(h, flow.reader.possible);
        for (int i = 0; i < RECENT; i++) {
            h = mixed(h, flow.reader.recentCharacter(i));
        }
        for (int i = 0; i < DIGEST_OFFSETS; i++) {
            h = mixed(h, flow.chosenByte(flow.offset + i));
        }
        return h;
    }

    private static long mixed(long h, long v) {
        return 31 * h + v;
    }

    private static boolean isWord(int w) {
        return w >= 0 && w < WORDS;
    }

    private static boolean isKey(int key) {
        return key >= 0 && key < KEYS;
    }

    private int firstWrongByte() {
        if (textLength == 0) {
            return 0;
        }
        for (int i = 0; i < textLength && i < TEXT_LENGTH; i++) {
            if (i >= WORD_LENGTH || !isLetter(text[i])) {
                return i;
            }
        }
        return NOWHERE;
    }

    private static boolean isLetter(int c) {
        return c >= 'a' && c <= 'z';
    }

    // The flows' nodes are numbers of the automaton before, so they mean nothing any more.
    private void wordsChanged() {
        automaton.build(now.words);
        for (int i = 0; i < now.flowCount && i < FLOWS; i++) {
            now.flows[i].reader.restart();
        }
    }

    private int segmentError(int key, int offset) {
        if (!isKey(key) || offset < 0 || offset >= OFFSETS) {
            return BAD;
        }
        if (textLength == 0) {
            return STATE;
        }
        int place = now.placeOf(key);
        return place != NOWHERE && now.flows[place].pieces.isFull() ? FULL : 0;
    }

    private int handled(State state, int key, int offset) {
        int before = state.finds.made();
        state.flowOfSegment(key).accept(text, 0, textLength, offset);
        return state.finds.made() - before;
    }

    private int wordsBy(Flow flow, int policy) {
        rehearsal.begin(flow.key, policy, flow.reader.flags, flow.bound);
        Segments log = flow.log;
        for (int i = 0; i < log.count && i < LOGGED; i++) {
            rehearsal.accept(log.bytes, i * TEXT_LENGTH, log.lengths[i], log.starts[i]);
        }
        return rehearsal.reader.found;
    }

    private void record() {
        if (pastCount < 0 || pastCount >= STATES) {
            dropOldest();
        }
        past[pastCount].copyFrom(now);
        pastCount++;
    }

    private void dropOldest() {
        State oldest = past[0];
        for (int i = 1; i < STATES; i++) {
            past[i - 1] = past[i];
        }
        past[STATES - 1] = oldest;
        pastCount = STATES - 1;
    }

    private static final class Words {
        // A word that is not defined has the length 0.
        final int[] lengths = new int[WORDS];
        final byte[] letters = new byte[WORDS * WORD_LENGTH];

        void copyFrom(Words other) {
            System.arraycopy(other.lengths, 0, lengths, 0, WORDS);
            System.arraycopy(other.letters, 0, letters, 0, WORDS * WORD_LENGTH);
        }

        boolean isDefined(int w) {
            return lengths[w] > 0;
        }

        void put(int w, byte[] bytes, int length) {
            for (int i = 0; i < length && i < WORD_LENGTH && i < bytes.length; i++) {
                letters[w * WORD_LENGTH + i] = (byte) (bytes[i] - 'a');
            }
            lengths[w] = Math.min(length, WORD_LENGTH);
        }

        void remove(int w) {
            lengths[w] = 0;
        }

        int letterAt(int w, int i) {
            return i < lengths[w] ? letters[w * WORD_LENGTH + i] : NONE;
        }

        int definedSet() {
            int set = 0;
            for (int w = 0; w < WORDS; w++) {
                if (isDefined(w)) {
                    set |= 1 << w;
                }
            }
            return set;
        }
    }

    private static final class Automaton {
        int size = 1;
        final int[] lengths = new int[NODES];
        final int[] parents = new int[NODES];
        final int[] lastLetters = new int[NODES];
        final int[] fails = new int[NODES];
        final int[] wordSets = new int[NODES];
        final int[] wordLengths = new int[WORDS];
        private final int[] nexts = new int[NODES * LETTERS];
        private final int[] reached = new int[WORDS];

        boolean has(int node) {
            return node >= 0 && node < size;
        }

        int nextOf(int node, int letter) {
            if (node < 0 || node >= NODES || letter < 0 || letter >= LETTERS) {
                return 0;
            }
            return nexts[node * LETTERS + letter];
        }

        int wordsOf(int node) {
            return node >= 0 && node < NODES ? wordSets[node] : 0;
        }

        // The children of nodes in their order, by ascending letters, come in the order of the numbers.
        void build(Words words) {
            size = 1;
            Arrays.fill(nexts, 0);
            for (int w = 0; w < WORDS; w++) {
                reached[w] = 0;
                wordLengths[w] = words.lengths[w];
            }
            int first = 0;
            for (int length = 1; length <= WORD_LENGTH; length++) {
                int behind = size;
                for (int parent = first; parent < behind; parent++) {
                    addChildren(words, parent, length);
                }
                first = behind;
            }
            for (int node = 1; node < size; node++) {
                link(node);
            }
        }

        private void addChildren(Words words, int parent, int length) {
            for (int letter = 0; letter < LETTERS; letter++) {
                int child = NOWHERE;
                for (int w = 0; w < WORDS; w++) {
                    if (reached[w] != parent || words.letterAt(w, length - 1) != letter) {
                        continue;
                    }
                    if (child == NOWHERE) {
                        child = added(parent, letter, length);
                    }
                    reached[w] = child;
                    if (wordLengths[w] == length) {
                        wordSets[child] |= 1 << w;
                    }
                }
            }
        }

        private int added(int parent, int letter, int length) {
            int child = Math.min(size, NODES - 1);
            lengths[child] = length;
            parents[child] = parent;
            lastLetters[child] = letter;
            wordSets[child] = 0;
            nexts[parent * LETTERS + letter] = child;
            size = child + 1;
            return child;
        }

        // All shorter nodes have been linked already, so what is taken over from them is whole.
        private void link(int node) {
            int parent = parents[node];
            int fail = parent > 0 && parent < node ? nextOf(fails[parent], lastLetters[node]) : 0;
            fails[node] = fail;
            wordSets[node] |= wordsOf(fail);
            for (int letter = 0; letter < LETTERS; letter++) {
                int at = node * LETTERS + letter;
                if (nexts[at] == 0) {
                    nexts[at] = nextOf(fail, letter);
                }
            }
        }

        long nextSet(long nodes, int letter) {
            long set = 0;
            for (int node = 0; node < size; node++) {
                if ((nodes >>> node & 1) != 0) {
                    set |= 1L << nexts[node * LETTERS + letter];
                }
            }
            return set;
        }

        long nextSetByAny(long nodes) {
            long set = 0;
            for (int letter = 0; letter < LETTERS; letter++) {
                set |= nextSet(nodes, letter);
            }
            return set;
        }

        // A character that is no letter leads to node 0.
        long spread(long nodes, int characters) {
            long set = nodes;
            for (int i = 0; i < characters; i++) {
                long wider = set | nextSetByAny(set) | 1;
                if (wider == set) {
                    break;
                }
                set = wider;
            }
            return set;
        }

        int wordsOfSet(long nodes) {
            int words = 0;
            for (int node = 0; node < size; node++) {
                if ((nodes >>> node & 1) != 0) {
                    words |= wordSets[node];
                }
            }
            return words;
        }

        // The letters of the shortest word lead to a find from everywhere.
        int fewestLettersToWord(int node) {
            long set = 1L << node;
            for (int letters = 1; letters <= WORD_LENGTH; letters++) {
                set = nextSetByAny(set);
                if (wordsOfSet(set) != 0) {
                    return letters;
                }
            }
            return NONE;
        }
    }

    private static final class Finds {
        int sureCount = 0;
        int doubtfulCount = 0;
        int remembered = 0;
        // The latest finds stand before it, and go on around the end.
        private int slot = 0;
        private final int[] keys = new int[FINDS];
        private final int[] words = new int[FINDS];
        private final int[] firsts = new int[FINDS];
        private final int[] ends = new int[FINDS];

        void copyFrom(Finds other) {
            sureCount = other.sureCount;
            doubtfulCount = other.doubtfulCount;
            remembered = other.remembered;
            slot = other.slot;
            System.arraycopy(other.keys, 0, keys, 0, FINDS);
            System.arraycopy(other.words, 0, words, 0, FINDS);
            System.arraycopy(other.firsts, 0, firsts, 0, FINDS);
            System.arraycopy(other.ends, 0, ends, 0, FINDS);
        }

        int made() {
            return sureCount + doubtfulCount;
        }

        void add(int key, int word, int first, int end) {
            int at = slot >= 0 && slot < FINDS ? slot : 0;
            keys[at] = key;
            words[at] = word;
            firsts[at] = first;
            ends[at] = end;
            slot = at + 1;
            if (remembered < FINDS) {
                remembered++;
            }
            if (first == NONE) {
                doubtfulCount++;
            } else {
                sureCount++;
            }
        }

        int tell(int i, int what) {
            if (i < 0 || i >= remembered) {
                return NONE;
            }
            int at = slot > i ? slot - 1 - i : slot - 1 - i + FINDS;
            if (at < 0 || at >= FINDS) {
                return NONE;
            }
            switch (what) {
                case 0: return keys[at];
                case 1: return words[at];
                case 2: return firsts[at];
                default: return ends[at];
            }
        }
    }

    /** Segments in the order in which they came: the pieces of a flow, or its log. */
    private static final class Segments {
        int count = 0;
        final int[] starts;
        final int[] lengths;
        final byte[] bytes;

        Segments(int most) {
            starts = new int[most];
            lengths = new int[most];
            bytes = new byte[most * TEXT_LENGTH];
        }

        void copyFrom(Segments other) {
            count = 0;
            for (int i = 0; i < other.count && i < other.starts.length; i++) {
                add(other.bytes, i * TEXT_LENGTH, other.lengths[i], other.starts[i]);
            }
        }

        boolean isFull() {
            return count >= starts.length;
        }

        void add(byte[] source, int from, int length, int start) {
            if (isFull() || length < 0 || length > TEXT_LENGTH || from < 0 || from > source.length - length) {
                return;
            }
            put(count, source, from, length, start);
            count++;
        }

        private void put(int i, byte[] source, int from, int length, int start) {
            starts[i] = start;
            lengths[i] = length;
            System.arraycopy(source, from, bytes, i * TEXT_LENGTH, length);
        }

        boolean covers(int i, int offset) {
            return i >= 0 && i < count && offset >= starts[i] && offset < starts[i] + lengths[i];
        }

        int byteFor(int i, int offset) {
            return covers(i, offset) ? bytes[i * TEXT_LENGTH + offset - starts[i]] : NONE;
        }

        void dropBefore(int offset) {
            int kept = 0;
            for (int i = 0; i < count; i++) {
                if (starts[i] + lengths[i] <= offset) {
                    continue;
                }
                if (kept < i) {
                    put(kept, bytes, i * TEXT_LENGTH, lengths[i], starts[i]);
                }
                kept++;
            }
            count = kept;
        }

        int coveredFrom(int offset) {
            int covered = 0;
            for (int i = 0; i < count; i++) {
                int end = starts[i] + lengths[i];
                for (int at = Math.max(offset, starts[i]); at < end; at++) {
                    if (!isCoveredBefore(i, at)) {
                        covered++;
                    }
                }
            }
            return covered;
        }

        private boolean isCoveredBefore(int last, int offset) {
            for (int i = 0; i < last; i++) {
                if (covers(i, offset)) {
                    return true;
                }
            }
            return false;
        }

        int smallestStart() {
            int smallest = BEHIND_ALL;
            for (int i = 0; i < count; i++) {
                smallest = Math.min(smallest, starts[i]);
            }
            return smallest;
        }
    }

    /** Normalises the bytes of a flow and reads the characters that come of them. */
    private static final class Reader {
        private final Automaton automaton;
        private final Finds finds;
        private int key;
        int flags;
        int heldCount;
        // The first byte that is held is always a percent sign.
        private int heldDigit;
        private boolean isBehindBlank;
        int node;
        long possible;
        private final int[] characters = new int[RECENT];
        private final int[] firstIndices = new int[RECENT];
        int readCount;
        int sureCount;
        int doubtfulCount;
        int found;

        Reader(Automaton automaton, Finds finds) {
            this.automaton = automaton;
            this.finds = finds;
        }

        void begin(int newKey, int newFlags) {
            key = newKey;
            flags = newFlags;
            heldCount = 0;
            isBehindBlank = false;
            readCount = 0;
            sureCount = 0;
            doubtfulCount = 0;
            found = 0;
            restart();
        }

        void restart() {
            node = 0;
            possible = 1;
        }

        void copyFrom(Reader other) {
            key = other.key;
            flags = other.flags;
            heldCount = other.heldCount;
            heldDigit = other.heldDigit;
            isBehindBlank = other.isBehindBlank;
            node = other.node;
            possible = other.possible;
            System.arraycopy(other.characters, 0, characters, 0, RECENT);
            System.arraycopy(other.firstIndices, 0, firstIndices, 0, RECENT);
            readCount = other.readCount;
            sureCount = other.sureCount;
            doubtfulCount = other.doubtfulCount;
            found = other.found;
        }

        void take(int b, int index) {
            if ((flags & PERCENTS) == 0) {
                come(b, index, index + 1);
                return;
            }
            int digit = hexadecimal(b);
            if (heldCount == 2 && digit >= 0) {
                heldCount = 0;
                come((hexadecimal(heldDigit) * 16 + digit) & 127, index - 2, index + 1);
            } else if (heldCount == 1 && digit >= 0) {
                heldCount = 2;
                heldDigit = b;
            } else {
                release(index);
                if (b == '%') {
                    heldCount = 1;
                } else {
                    come(b, index, index + 1);
                }
            }
        }

        // What is held are the latest bytes before the index.
        void release(int index) {
            int held = heldCount;
            heldCount = 0;
            if (held > 0) {
                come('%', index - held, index - held + 1);
            }
            if (held > 1) {
                come(heldDigit, index - 1, index);
            }
        }

        void skip(int index, int bytes) {
            release(index);
            isBehindBlank = false;
            node = 0;
            possible = automaton.spread(possible, bytes);
        }

        private void come(int c, int first, int end) {
            int character = (flags & LOWER) != 0 && c >= 'A' && c <= 'Z' ? c - 'A' + 'a' : c;
            if (isDropped(character)) {
                return;
            }
            isBehindBlank = character == ' ';
            characters[readCount & RECENT_MASK] = character;
            firstIndices[readCount & RECENT_MASK] = first;
            readCount++;
            if (!isLetter(character)) {
                restart();
                return;
            }
            node = automaton.nextOf(node, character - 'a');
            possible = automaton.nextSet(possible, character - 'a');
            int sure = automaton.wordsOf(node);
            int doubtful = automaton.wordsOfSet(possible) & ~sure;
            for (int w = 0; w < WORDS; w++) {
                if ((sure >> w & 1) != 0) {
                    finds.add(key, w, firstIndexOf(automaton.wordLengths[w]), end);
                }
            }
            for (int w = 0; w < WORDS; w++) {
                if ((doubtful >> w & 1) != 0) {
                    finds.add(key, w, NONE, end);
                }
            }
            sureCount += Integer.bitCount(sure);
            doubtfulCount += Integer.bitCount(doubtful);
            found |= sure;
        }

        private boolean isDropped(int character) {
            if ((flags & NO_MARKS) != 0 && (character == '-' || character == '.')) {
                return true;
            }
            return (flags & ONE_BLANK) != 0 && character == ' ' && isBehindBlank;
        }

        private int firstIndexOf(int length) {
            return firstIndices[readCount - length & RECENT_MASK];
        }

        int recentCharacter(int i) {
            return i < readCount ? characters[readCount - 1 - i & RECENT_MASK] : NONE;
        }

        private static int hexadecimal(int b) {
            if (b >= '0' && b <= '9') {
                return b - '0';
            }
            if (b >= 'A' && b <= 'F') {
                return b - 'A' + 10;
            }
            return b >= 'a' && b <= 'f' ? b - 'a' + 10 : NOWHERE;
        }
    }

    /** Puts the bytes of a flow together. */
    private static final class Flow {
        int key;
        private int policy;
        int bound;
        int offset;
        final Segments pieces = new Segments(PIECES);
        final Segments log = new Segments(LOGGED);
        final Reader reader;
        private int segmentCount;
        private int oldCount;
        private int conflictCount;
        private int gapCount;
        private int gapBytes;

        Flow(Automaton automaton, Finds finds) {
            reader = new Reader(automaton, finds);
        }

        void begin(int newKey, int newPolicy, int newFlags, int newBound) {
            key = newKey;
            policy = newPolicy;
            bound = newBound;
            offset = 0;
            pieces.count = 0;
            log.count = 0;
            reader.begin(newKey, newFlags);
            segmentCount = 0;
            oldCount = 0;
            conflictCount = 0;
            gapCount = 0;
            gapBytes = 0;
        }

        void copyFrom(Flow other) {
            key = other.key;
            policy = other.policy;
            bound = other.bound;
            offset = other.offset;
            pieces.copyFrom(other.pieces);
            log.copyFrom(other.log);
            reader.copyFrom(other.reader);
            segmentCount = other.segmentCount;
            oldCount = other.oldCount;
            conflictCount = other.conflictCount;
            gapCount = other.gapCount;
            gapBytes = other.gapBytes;
        }

        void accept(byte[] source, int from, int length, int start) {
            segmentCount++;
            log.add(source, from, length, start);
            if (start + length <= offset) {
                oldCount++;
                return;
            }
            pieces.add(source, from, length, start);
            deliver();
            // Behind a gap at least one piece is delivered to its end.
            for (int gaps = 0; gaps < PIECES && pieces.coveredFrom(offset) > bound; gaps++) {
                skipGap();
                deliver();
            }
        }

        void end() {
            reader.release(offset);
        }

        private void deliver() {
            while (offset < BEHIND_ALL) {
                int piece = chosenPiece(offset);
                if (piece == NOWHERE) {
                    break;
                }
                int b = pieces.byteFor(piece, offset);
                if (isDisputed(offset, b)) {
                    conflictCount++;
                }
                reader.take(b, offset);
                offset++;
            }
            pieces.dropBefore(offset);
        }

        private void skipGap() {
            int to = pieces.smallestStart();
            gapCount++;
            gapBytes += to - offset;
            reader.skip(offset, to - offset);
            offset = to;
        }

        private boolean isDisputed(int at, int b) {
            for (int i = 0; i < pieces.count; i++) {
                int other = pieces.byteFor(i, at);
                if (other != NONE && other != b) {
                    return true;
                }
            }
            return false;
        }

        private int chosenPiece(int at) {
            int chosen = NOWHERE;
            for (int i = 0; i < pieces.count; i++) {
                if (pieces.covers(i, at) && (chosen == NOWHERE || isPreferred(i, chosen))) {
                    chosen = i;
                }
            }
            return chosen;
        }

        private boolean isPreferred(int later, int earlier) {
            switch (policy) {
                case TAKE_LAST: return true;
                case TAKE_SMALLEST: return pieces.starts[later] < pieces.starts[earlier];
                case TAKE_LONGEST: return pieces.lengths[later] > pieces.lengths[earlier];
                default: return false;
            }
        }

        int chosenByte(int at) {
            if (at < offset) {
                return NONE;
            }
            return pieces.byteFor(chosenPiece(at), at);
        }

        int tell(int what) {
            switch (what) {
                case 0: return offset;
                case 1: return pieces.count;
                case 2: return pieces.coveredFrom(offset);
                case 3: return policy;
                case 4: return reader.flags;
                case 5: return bound;
                case 6: return reader.node;
                case 7: return Long.bitCount(reader.possible);
                case 8: return reader.heldCount;
                case 9: return segmentCount;
                case 10: return oldCount;
                case 11: return conflictCount;
                case 12: return gapCount;
                case 13: return gapBytes;
                case 14: return reader.readCount;
                case 15: return reader.sureCount;
                case 16: return reader.doubtfulCount;
                default: return log.count;
            }
        }
    }

    /** All that undo() brings back. */
    private static final class State {
        final Words words = new Words();
        final int[] settings = new int[BOUND + 1];
        final Finds finds;
        // In the order of their latest segments; behind the known ones stand those to be used next.
        final Flow[] flows = new Flow[FLOWS];
        int flowCount = 0;
        int forgottenCount = 0;

        State(Automaton automaton, Finds finds) {
            this.finds = finds;
            settings[BOUND] = FIRST_BOUND;
            for (int i = 0; i < FLOWS; i++) {
                flows[i] = new Flow(automaton, finds);
            }
        }

        void copyFrom(State other) {
            words.copyFrom(other.words);
            System.arraycopy(other.settings, 0, settings, 0, BOUND + 1);
            finds.copyFrom(other.finds);
            flowCount = other.flowCount;
            for (int i = 0; i < flowCount && i < FLOWS; i++) {
                flows[i].copyFrom(other.flows[i]);
            }
            forgottenCount = other.forgottenCount;
        }

        int placeOf(int key) {
            for (int i = 0; i < flowCount && i < FLOWS; i++) {
                if (flows[i].key == key) {
                    return i;
                }
            }
            return NOWHERE;
        }

        Flow flowOfSegment(int key) {
            int place = placeOf(key);
            if (place == NOWHERE) {
                if (flowCount >= FLOWS) {
                    remove(0);
                    forgottenCount++;
                }
                place = flowCount;
                flows[place].begin(key, settings[POLICY], settings[FLAGS], settings[BOUND]);
                flowCount++;
            }
            return movedToEnd(place);
        }

        void remove(int place) {
            movedToEnd(place);
            flowCount--;
        }

        private Flow movedToEnd(int place) {
            Flow moved = flows[place];
            int to = place;
            for (int i = place + 1; i < flowCount && i < FLOWS; i++) {
                flows[i - 1] = flows[i];
                to = i;
            }
            flows[to] = moved;
            return moved;
        }
    }
}
