import java.util.ArrayList;
import java.util.List;
import java.util.TreeSet;

/** Long runs of calls, each answered by the class and by a model that follows the document word by word. */
public final class ModelRuns {
    private static final int RUNS = 500, CALLS = 450;

    private static int wrong = 0;

    public static void main(String[] args) {
        long calls = 0;
        for (int run = 0; run < RUNS && wrong == 0; run++) {
            calls += new Run(run).go();
        }
        System.out.println(calls + " calls compared with the model, " + wrong + " answers not as due");
        if (wrong != 0) {
            System.exit(1);
        }
    }

    private static final class Run {
        private static final String[] TEXTS = {"ab", "abc ", "abAB", "ab%61", "%6124ab", "ab-. ", "abcdefAC%469120-. x"};
        private static final String[] FEW_LETTERS = {"a", "ab", "ab", "abc"};
        private static final String[] ALL_LETTERS = {"abyz", "abcdefghijklmnopqrstuvwxyz"};
        private static final int[] FAR = {Integer.MIN_VALUE, Integer.MAX_VALUE, -1, -2, 6, 40, 41, 100, 1000, 1101, 1 << 20};

        private final int number;
        private final Dice dice;
        private final TornStreams real = new TornStreams();
        private final Model model = new Model();
        private final StringBuilder trace = new StringBuilder();
        private final String alphabet;
        private final String[] letters;
        private final int wordLength;
        private final int keys;
        private final int spread;
        private int calls = 0;

        Run(int number) {
            this.number = number;
            dice = new Dice(number);
            alphabet = TEXTS[dice.below(TEXTS.length)];
            // With few letters there are many finds, with all of them there are many nodes.
            letters = number % 4 == 3 ? ALL_LETTERS : FEW_LETTERS;
            wordLength = number % 4 == 3 ? 8 : 4;
            keys = 1 + dice.below(7);
            spread = 1 + dice.below(30);
        }

        int go() {
            while (calls < CALLS && wrong == 0) {
                act();
                if (dice.below(6) == 0) {
                    same("digest()", real.digest(), model.digest());
                }
            }
            return calls;
        }

        private void same(String call, long got, long want) {
            calls++;
            trace.append("\n  ").append(call).append(" = ").append(got);
            if (got != want) {
                wrong++;
                System.out.println("run " + number + ":" + trace + ", due is " + want);
            }
        }

        private int arg(int limit) {
            return dice.below(60) == 0 ? FAR[dice.below(FAR.length)] : dice.below(limit);
        }

        private int key() {
            return arg(keys);
        }

        private int offset() {
            int base = 0;
            int k = dice.below(keys);
            if (model.known(k) != null) {
                base = Math.max(0, model.known(k).offset - dice.below(6));
            }
            return dice.below(40) == 0 ? arg(1000) : base + dice.below(spread);
        }

        private void write(String from, int most) {
            if (dice.below(5) != 0) {
                same("clear()", real.clear(), model.clear());
            }
            int n = 1 + dice.below(most);
            for (int i = 0; i < n; i++) {
                int c = dice.below(80) == 0 ? arg(130) : from.charAt(dice.below(from.length()));
                same("type(" + c + ")", real.type(c), model.type(c));
            }
        }

        private void act() {
            switch (dice.below(24)) {
                case 0:
                    write(letters[dice.below(letters.length)], dice.below(4) == 0 ? 9 : wordLength);
                    int w = arg(6);
                    same("define(" + w + ")", real.define(w), model.define(w));
                    break;
                case 1:
                    if (dice.below(3) == 0) {
                        int f = arg(6);
                        same("forget(" + f + ")", real.forget(f), model.forget(f));
                    }
                    break;
                case 2:
                    int what = arg(3);
                    int v = what == 2 ? arg(dice.below(2) == 0 ? 6 : 42) : what == 1 ? arg(17) : arg(5);
                    same("set(" + what + ", " + v + ")", real.set(what, v), model.set(what, v));
                    break;
                case 3: case 4: case 5: case 6: case 7: case 8: case 9: case 10:
                    segment();
                    break;
                case 11:
                    if (dice.below(3) == 0) {
                        int k = key();
                        same("finish(" + k + ")", real.finish(k), model.finish(k));
                    }
                    break;
                case 12:
                    int times = dice.below(3) == 0 ? 3 : 1;
                    for (int i = 0; i < times; i++) {
                        same("undo()", real.undo(), model.undo());
                    }
                    break;
                default:
                    ask();
            }
        }

        private void segment() {
            if (dice.below(4) != 0) {
                write(alphabet, dice.below(6) == 0 ? 41 : 6);
            }
            int k = key();
            int o = offset();
            if (dice.below(4) == 0) {
                same("ifSegment(" + k + ", " + o + ")", real.ifSegment(k, o), model.ifSegment(k, o));
            }
            same("segment(" + k + ", " + o + ")", real.segment(k, o), model.segment(k, o));
        }

        private void ask() {
            int k = key();
            int i = dice.below(30) == 0 ? FAR[dice.below(FAR.length)] : dice.below(12);
            int j = dice.below(30) == 0 ? FAR[dice.below(FAR.length)] : dice.below(12);
            String one = "(" + k + ")";
            String two = "(" + k + ", " + i + ")";
            String both = "(" + i + ", " + j + ")";
            switch (dice.below(15)) {
                case 0: same("letter" + both, real.letter(i, j), model.letter(i, j)); break;
                case 1: same("node" + both, real.node(i, j), model.node(i, j)); break;
                case 2: same("next" + both, real.next(i, j), model.next(i, j)); break;
                case 3: same("flow(" + i + ")", real.flow(i), model.flow(i)); break;
                case 4: same("property" + two, real.property(k, i), model.property(k, i)); break;
                case 5:
                    int o = offset();
                    same("byteAt(" + k + ", " + o + ")", real.byteAt(k, o), model.byteAt(k, o));
                    break;
                case 6: same("possible" + one, real.possible(k), model.possible(k)); break;
                case 7: same("read" + two, real.read(k, i), model.read(k, i)); break;
                case 8: same("find" + both, real.find(i, j), model.find(i, j)); break;
                case 9: same("told(" + i + ")", real.told(i), model.told(i)); break;
                case 10: same("replay" + two, real.replay(k, i), model.replay(k, i)); break;
                case 11:
                    int p = dice.below(4);
                    same("replay(" + k + ", " + p + ")", real.replay(k, p), model.replay(k, p));
                    break;
                case 12: same("evasions" + one, real.evasions(k), model.evasions(k)); break;
                default: same("nearest" + one, real.nearest(k), model.nearest(k)); break;
            }
        }
    }

    /** The same throws in every run of the test. */
    private static final class Dice {
        private long seed;

        Dice(int start) {
            seed = start * 7919L + 12345;
        }

        int below(int limit) {
            seed = seed * 6364136223846793005L + 1442695040888963407L;
            return (int) ((seed >>> 33) % limit);
        }
    }

    private static final class Piece {
        final int offset;
        final String bytes;

        Piece(int offset, String bytes) {
            this.offset = offset;
            this.bytes = bytes;
        }

        int at(int index) {
            return index >= offset && index < offset + bytes.length() ? bytes.charAt(index - offset) : -1;
        }
    }

    private static final class MFlow {
        int key, policy, flags, bound;
        int offset = 0, segments = 0, old = 0, conflicts = 0, gaps = 0, gapBytes = 0, sure = 0, doubtful = 0;
        List<Piece> pieces = new ArrayList<>();
        List<Piece> log = new ArrayList<>();
        String held = "";
        int lastKept = -1;
        List<int[]> read = new ArrayList<>();
        String node = "";
        TreeSet<String> possible = new TreeSet<>(List.of(""));
        int words = 0;

        MFlow copy() {
            MFlow f = new MFlow();
            f.key = key; f.policy = policy; f.flags = flags; f.bound = bound;
            f.offset = offset; f.segments = segments; f.old = old; f.conflicts = conflicts;
            f.gaps = gaps; f.gapBytes = gapBytes; f.sure = sure; f.doubtful = doubtful;
            f.pieces = new ArrayList<>(pieces);
            f.log = new ArrayList<>(log);
            f.held = held; f.lastKept = lastKept;
            f.read = new ArrayList<>(read);
            f.node = node;
            f.possible = new TreeSet<>(possible);
            f.words = words;
            return f;
        }

        List<Piece> covering(int index) {
            List<Piece> found = new ArrayList<>();
            for (Piece p : pieces) {
                if (index >= offset && p.at(index) >= 0) {
                    found.add(p);
                }
            }
            return found;
        }

        int covered() {
            int n = 0;
            for (int i = offset; i <= 1100; i++) {
                n += covering(i).isEmpty() ? 0 : 1;
            }
            return n;
        }

        int choice(int index) {
            List<Piece> from = covering(index);
            if (from.isEmpty()) {
                return -9;
            }
            Piece best = from.get(0);
            if (policy == 1) {
                best = from.get(from.size() - 1);
            }
            for (Piece p : from) {
                if (policy == 2 && p.offset < best.offset || policy == 3 && p.bytes.length() > best.bytes.length()) {
                    best = p;
                }
            }
            return best.at(index);
        }
    }

    private static final class Model {
        String[] words = new String[6];
        int[] settings = {0, 0, 10};
        List<MFlow> flows = new ArrayList<>();
        List<int[]> finds = new ArrayList<>();
        int sure = 0, doubtful = 0, forgotten = 0;
        List<Model> past = new ArrayList<>();
        String text = "";
        private List<String> nodeList = null;

        Model copy() {
            Model m = new Model();
            m.take(this);
            return m;
        }

        void take(Model o) {
            words = o.words.clone();
            settings = o.settings.clone();
            flows = new ArrayList<>();
            for (MFlow f : o.flows) {
                flows.add(f.copy());
            }
            finds = new ArrayList<>(o.finds);
            sure = o.sure; doubtful = o.doubtful; forgotten = o.forgotten;
            nodeList = null;
        }

        void record() {
            past.add(copy());
            if (past.size() > 4) {
                past.remove(0);
            }
        }

        // ---- the automaton

        List<String> nodes() {
            if (nodeList == null) {
                TreeSet<String> all = new TreeSet<>((a, b) ->
                    a.length() != b.length() ? a.length() - b.length() : a.compareTo(b));
                all.add("");
                for (String w : words) {
                    for (int n = 0; w != null && n <= w.length(); n++) {
                        all.add(w.substring(0, n));
                    }
                }
                nodeList = new ArrayList<>(all);
            }
            return nodeList;
        }

        String longestEnd(String s) {
            for (int from = 0; from < s.length(); from++) {
                if (nodes().contains(s.substring(from))) {
                    return s.substring(from);
                }
            }
            return "";
        }

        int wordsOf(String s) {
            int set = 0;
            for (int w = 0; w < 6; w++) {
                set |= words[w] != null && s.endsWith(words[w]) ? 1 << w : 0;
            }
            return set;
        }

        TreeSet<String> nextOf(TreeSet<String> from) {
            TreeSet<String> to = new TreeSet<>();
            for (String s : from) {
                for (char c = 'a'; c <= 'z'; c++) {
                    to.add(longestEnd(s + c));
                }
            }
            return to;
        }

        void wordsChanged() {
            nodeList = null;
            for (MFlow f : flows) {
                f.node = "";
                f.possible = new TreeSet<>(List.of(""));
            }
        }

        // ---- steps of a segment

        void handle(int key, int offset) {
            MFlow f = known(key);
            if (f == null) {
                if (flows.size() == 4) {
                    flows.remove(0);
                    forgotten++;
                }
                f = new MFlow();
                f.key = key; f.policy = settings[0]; f.flags = settings[1]; f.bound = settings[2];
            }
            flows.remove(f);
            flows.add(f);
            give(f, new Piece(offset, text));
        }

        void give(MFlow f, Piece p) {
            f.segments++;
            if (f.log.size() < 10) {
                f.log.add(p);
            }
            if (p.offset + p.bytes.length() - 1 < f.offset) {
                f.old++;
                return;
            }
            f.pieces.add(p);
            stepThree(f);
            while (f.covered() > f.bound) {
                int to = f.offset;
                while (f.covering(to).isEmpty()) {
                    to++;
                }
                gap(f, to - f.offset);
                f.offset = to;
                stepThree(f);
            }
        }

        void stepThree(MFlow f) {
            while (!f.covering(f.offset).isEmpty()) {
                TreeSet<Integer> unlike = new TreeSet<>();
                for (Piece p : f.covering(f.offset)) {
                    unlike.add(p.at(f.offset));
                }
                f.conflicts += unlike.size() > 1 ? 1 : 0;
                int b = f.choice(f.offset);
                f.offset++;
                deliver(f, (char) b);
            }
            f.pieces.removeIf(p -> p.offset + p.bytes.length() <= f.offset);
        }

        void deliver(MFlow f, char b) {
            int index = f.offset - 1;
            if ((f.flags & 2) == 0) {
                character(f, b, index, index + 1);
                return;
            }
            String held = f.held + b;
            if (held.matches("%[0-9A-Fa-f]{2}")) {
                f.held = "";
                character(f, Integer.parseInt(held.substring(1), 16) % 128, index - 2, index + 1);
            } else if (held.matches("%[0-9A-Fa-f]?")) {
                f.held = held;
            } else {
                release(f, index);
                if (b == '%') {
                    f.held = "%";
                } else {
                    character(f, b, index, index + 1);
                }
            }
        }

        void release(MFlow f, int behind) {
            String held = f.held;
            f.held = "";
            for (int i = 0; i < held.length(); i++) {
                int index = behind - held.length() + i;
                character(f, held.charAt(i), index, index + 1);
            }
        }

        void gap(MFlow f, int n) {
            f.gaps++;
            f.gapBytes += n;
            release(f, f.offset);
            f.lastKept = -1;
            f.node = "";
            for (int i = 0; i < Math.min(n, 12); i++) {
                f.possible.addAll(nextOf(f.possible));
                f.possible.add("");
            }
        }

        void character(MFlow f, int c, int first, int behind) {
            if ((f.flags & 1) != 0) {
                c = Character.toLowerCase((char) c);
            }
            if ((f.flags & 8) != 0 && "-.".indexOf(c) >= 0) {
                return;
            }
            if ((f.flags & 4) != 0 && c == 32 && f.lastKept == 32) {
                return;
            }
            f.lastKept = c;
            f.read.add(new int[] {c, first});
            TreeSet<String> possible = new TreeSet<>();
            if (c >= 'a' && c <= 'z') {
                f.node = longestEnd(f.node + (char) c);
                for (String s : f.possible) {
                    possible.add(longestEnd(s + (char) c));
                }
            } else {
                f.node = "";
                possible.add("");
            }
            f.possible = possible;
            tellFinds(f, behind);
        }

        void tellFinds(MFlow f, int behind) {
            int found = wordsOf(f.node);
            f.words |= found;
            for (int w = 0; w < 6; w++) {
                if ((found & 1 << w) != 0) {
                    finds.add(new int[] {f.key, w, f.read.get(f.read.size() - words[w].length())[1], behind});
                    sure++;
                    f.sure++;
                }
            }
            for (int w = 0; w < 6; w++) {
                boolean may = false;
                for (String s : f.possible) {
                    may |= (wordsOf(s) & 1 << w) != 0;
                }
                if (may && (found & 1 << w) == 0) {
                    finds.add(new int[] {f.key, w, -9, behind});
                    doubtful++;
                    f.doubtful++;
                }
            }
        }

        // ---- the face

        MFlow known(int key) {
            for (MFlow f : flows) {
                if (f.key == key) {
                    return f;
                }
            }
            return null;
        }

        static boolean in(int v, int from, int to) {
            return v >= from && v <= to;
        }

        int type(int c) {
            if (!in(c, 32, 126)) {
                return -1;
            }
            if (text.length() == 40) {
                return -3;
            }
            text += (char) c;
            return text.length();
        }

        int clear() {
            int n = text.length();
            text = "";
            return n;
        }

        int define(int w) {
            if (!in(w, 0, 5)) {
                return -1;
            }
            int good = 0;
            while (good < 8 && good < text.length() && in(text.charAt(good), 'a', 'z')) {
                good++;
            }
            if (good == 0 || good < text.length()) {
                return -10 - good;
            }
            record();
            words[w] = text;
            wordsChanged();
            return nodes().size();
        }

        int forget(int w) {
            if (!in(w, 0, 5)) {
                return -1;
            }
            if (words[w] == null) {
                return -2;
            }
            record();
            words[w] = null;
            wordsChanged();
            return nodes().size();
        }

        int letter(int w, int i) {
            if (!in(w, 0, 5) || i < 0) {
                return -1;
            }
            return words[w] == null ? -2 : i < words[w].length() ? words[w].charAt(i) - 'a' : -9;
        }

        int node(int n, int what) {
            if (!in(n, 0, nodes().size() - 1) || !in(what, 0, 4)) {
                return -1;
            }
            String s = nodes().get(n);
            if (what == 0) {
                return s.length();
            }
            if (what == 4) {
                return wordsOf(s);
            }
            if (n == 0) {
                return -9;
            }
            return what == 1 ? nodes().indexOf(s.substring(0, s.length() - 1))
                : what == 2 ? s.charAt(s.length() - 1) - 'a' : nodes().indexOf(longestEnd(s.substring(1)));
        }

        int next(int n, int letter) {
            if (!in(n, 0, nodes().size() - 1) || !in(letter, 0, 25)) {
                return -1;
            }
            return nodes().indexOf(longestEnd(nodes().get(n) + (char) ('a' + letter)));
        }

        int set(int what, int v) {
            if (!in(what, 0, 2) || !in(v, what == 2 ? 1 : 0, what == 0 ? 3 : what == 1 ? 15 : 40)) {
                return -1;
            }
            record();
            int before = settings[what];
            settings[what] = v;
            return before;
        }

        int segmentError(int key, int offset) {
            if (!in(key, 0, 99) || !in(offset, 0, 999)) {
                return -1;
            }
            if (text.isEmpty()) {
                return -2;
            }
            return known(key) != null && known(key).pieces.size() == 6 ? -3 : 0;
        }

        int segment(int key, int offset) {
            if (segmentError(key, offset) != 0) {
                return segmentError(key, offset);
            }
            record();
            int before = finds.size();
            handle(key, offset);
            return finds.size() - before;
        }

        int ifSegment(int key, int offset) {
            Model m = copy();
            m.text = text;
            return m.segment(key, offset);
        }

        int finish(int key) {
            if (!in(key, 0, 99)) {
                return -1;
            }
            MFlow f = known(key);
            if (f == null) {
                return -2;
            }
            record();
            int before = finds.size();
            release(f, f.offset);
            flows.remove(f);
            return finds.size() - before;
        }

        int flow(int i) {
            return i < 0 ? -1 : i < flows.size() ? flows.get(i).key : -9;
        }

        int property(int key, int what) {
            if (!in(key, 0, 99) || !in(what, 0, 17)) {
                return -1;
            }
            MFlow f = known(key);
            if (f == null) {
                return -2;
            }
            int[] all = {f.offset, f.pieces.size(), f.covered(), f.policy, f.flags, f.bound,
                nodes().indexOf(f.node), f.possible.size(), f.held.length(), f.segments, f.old, f.conflicts,
                f.gaps, f.gapBytes, f.read.size(), f.sure, f.doubtful, f.log.size()};
            return all[what];
        }

        int byteAt(int key, int offset) {
            if (!in(key, 0, 99) || !in(offset, 0, 1100)) {
                return -1;
            }
            return known(key) == null ? -2 : known(key).choice(offset);
        }

        long possible(int key) {
            if (!in(key, 0, 99)) {
                return -1;
            }
            if (known(key) == null) {
                return -2;
            }
            long set = 0;
            for (String s : known(key).possible) {
                set |= 1L << nodes().indexOf(s);
            }
            return set;
        }

        int read(int key, int i) {
            if (!in(key, 0, 99) || !in(i, 0, 7)) {
                return -1;
            }
            MFlow f = known(key);
            return f == null ? -2 : i < f.read.size() ? f.read.get(f.read.size() - 1 - i)[0] : -9;
        }

        int find(int i, int what) {
            if (i < 0 || !in(what, 0, 3)) {
                return -1;
            }
            return i < Math.min(30, finds.size()) ? finds.get(finds.size() - 1 - i)[what] : -9;
        }

        int told(int what) {
            if (!in(what, 0, 11)) {
                return -1;
            }
            int defined = 0;
            for (int w = 0; w < 6; w++) {
                defined |= words[w] != null ? 1 << w : 0;
            }
            int[] all = {defined, nodes().size(), settings[0], settings[1], settings[2], flows.size(),
                Math.min(30, finds.size()), sure, doubtful, forgotten, past.size(), text.length()};
            return all[what];
        }

        int replay(int key, int policy) {
            if (!in(key, 0, 99) || !in(policy, 0, 3)) {
                return -1;
            }
            MFlow f = known(key);
            if (f == null) {
                return -2;
            }
            Model m = copy();
            MFlow again = new MFlow();
            again.policy = policy; again.flags = f.flags; again.bound = f.bound;
            for (Piece p : f.log) {
                m.give(again, p);
            }
            return again.words;
        }

        int evasions(int key) {
            if (replay(key, 0) < 0) {
                return replay(key, 0);
            }
            int set = 0;
            for (int w = 0; w < 6; w++) {
                int by = 0;
                for (int policy = 0; policy < 4; policy++) {
                    by += replay(key, policy) >> w & 1;
                }
                set |= by > 0 && by < 4 ? 1 << w : 0;
            }
            return set;
        }

        int nearest(int key) {
            if (!in(key, 0, 99)) {
                return -1;
            }
            if (known(key) == null) {
                return -2;
            }
            if (nodes().size() == 1) {
                return -9;
            }
            TreeSet<String> at = new TreeSet<>(List.of(known(key).node));
            for (int n = 1; n < 60; n++) {
                at = nextOf(at);
                for (String s : at) {
                    if (wordsOf(s) != 0) {
                        return n;
                    }
                }
            }
            return 60;
        }

        int undo() {
            if (past.isEmpty()) {
                return -2;
            }
            take(past.remove(past.size() - 1));
            return past.size();
        }

        private long h;

        void mix(long v) {
            h = 31 * h + v;
        }

        long digest() {
            h = 12572;
            for (int what = 0; what < 12; what++) {
                mix(told(what));
            }
            for (int n = 0; n < nodes().size(); n++) {
                for (int what = 0; what < 5; what++) {
                    mix(node(n, what));
                }
            }
            for (MFlow f : flows) {
                mix(f.key);
                for (int what = 0; what < 18; what++) {
                    mix(property(f.key, what));
                }
                mix(possible(f.key));
                for (int i = 0; i < 8; i++) {
                    mix(read(f.key, i));
                }
                for (int i = 0; i < 50; i++) {
                    mix(byteAt(f.key, f.offset + i));
                }
            }
            for (int i = 0; i < Math.min(30, finds.size()); i++) {
                for (int what = 0; what < 4; what++) {
                    mix(find(i, what));
                }
            }
            return h;
        }
    }
}
