import java.util.function.Supplier;
import java.util.function.ToLongFunction;

/** What the tests with answers that were worked out by hand have in common; they extend it to use its names. */
abstract class Check {
    static final int BAD = -1, STATE = -2, FULL = -3, NONE = -9;
    static final int MIN = Integer.MIN_VALUE, MAX = Integer.MAX_VALUE;

    private static String sentence = "";
    private static int sentences = 0;
    private static int answers = 0;
    private static int wrong = 0;

    static void run(Runnable... tests) {
        for (Runnable test : tests) {
            test.run();
        }
        end();
    }

    static void end() {
        System.out.println(answers + " answers on " + sentences + " sentences, " + wrong + " not as due");
        if (wrong != 0) {
            System.exit(1);
        }
    }

    // ---- calls

    static void says(String words) {
        sentence = words;
        sentences++;
    }

    static void due(String what, long got, long want) {
        answers++;
        if (got != want) {
            wrong++;
            System.out.println("\"" + sentence + "\": " + what + " answered " + got + ", due is " + want);
        }
    }

    static void write(TornStreams x, String s) {
        x.clear();
        for (int i = 0; i < s.length(); i++) {
            due("type('" + s.charAt(i) + "')", x.type(s.charAt(i)), i + 1);
        }
    }

    static int define(TornStreams x, int w, String s) {
        write(x, s);
        return x.define(w);
    }

    static int segment(TornStreams x, int key, int offset, String s) {
        write(x, s);
        return x.segment(key, offset);
    }

    static TornStreams with(String... words) {
        TornStreams x = new TornStreams();
        for (int w = 0; w < words.length; w++) {
            define(x, w, words[w]);
        }
        return x;
    }

    static TornStreams withSettings(int policy, int flags, int bound, String... words) {
        TornStreams x = with(words);
        x.set(0, policy);
        x.set(1, flags);
        x.set(2, bound);
        return x;
    }

    static void properties(TornStreams x, int key, int... want) {
        for (int what = 0; what < want.length; what++) {
            due("property(" + key + ", " + what + ")", x.property(key, what), want[what]);
        }
    }

    static void order(TornStreams x, int... keys) {
        for (int i = 0; i < 5; i++) {
            due("flow(" + i + ")", x.flow(i), i < keys.length ? keys[i] : NONE);
        }
        due("the number of flows", x.told(5), keys.length);
    }

    static void latest(TornStreams x, int i, int key, int word, int first, int end) {
        int[] want = {key, word, first, end};
        for (int what = 0; what < 4; what++) {
            due("find(" + i + ", " + what + ")", x.find(i, what), want[what]);
        }
    }

    static String many(String s, int times) {
        return s.repeat(times);
    }

    static String characters(TornStreams x, int key) {
        StringBuilder s = new StringBuilder();
        for (int i = 7; i >= 0; i--) {
            int c = x.read(key, i);
            if (c != NONE) {
                s.append((char) c);
            }
        }
        return s.toString();
    }

    static void sameText(String what, String got, String want) {
        due(what + " gave '" + got + "', due is '" + want + "'; the likeness", got.equals(want) ? 1 : 0, 1);
    }

    // Flow 7 has six pieces of one byte, at 2, 4, .. 12; the text is "a".
    static TornStreams sixPieces() {
        TornStreams x = withSettings(0, 0, 40);
        x.type('a');
        for (int i = 1; i <= 6; i++) {
            due("piece " + i, x.segment(7, 2 * i), 0);
        }
        return x;
    }

    // Four flows, the last of them with six pieces, four states, finds of both kinds, a text of 40 bytes.
    static TornStreams crowded() {
        TornStreams x = withSettings(1, 2, 3, "ab", "b", "bab");
        segment(x, 1, 0, "ab%6");
        segment(x, 2, 3, "bab%");
        segment(x, 3, 1, "a");
        x.set(2, 40);
        write(x, "c");
        for (int i = 1; i <= 6; i++) {
            x.segment(7, 2 * i);
        }
        write(x, "abc-defghijklmnopqrstuvwxyz0123456789ABC");
        return x;
    }

    static final int[] OF_FLOW_1 = {12, 2, 2, 1, 6, 3, 0, 1, 2, 7, 1, 2, 1, 3, 6, 4, 2, 7};
    static final int[] OF_FLOW_2 = {9, 0, 0, 1, 6, 3, 0, 1, 0, 3, 0, 0, 1, 2, 7, 6, 1, 3};

    // Of all that a state has there is something: flow 1 holds %6, flow 2 has read a blank, flow 53 the letter a.
    static TornStreams busy() {
        TornStreams x = withSettings(1, 6, 3, "ab", "b", "bab", "abcdefgh", "zyxwvuts", "qrstuvwx");
        for (int key = 50; key <= 54; key++) {
            segment(x, key, 0, "xya");
        }
        segment(x, 1, 0, "ab");
        segment(x, 1, 0, "x");
        segment(x, 1, 5, "bxa");
        segment(x, 1, 6, "yb ");
        segment(x, 1, 9, " %6");
        segment(x, 1, 20, "01");
        segment(x, 1, 21, "2");
        segment(x, 2, 0, "b ");
        segment(x, 2, 4, "abab");
        segment(x, 2, 8, " ");
        return x;
    }

    // All that is told of an object but the number of its states.
    static String view(TornStreams x) {
        StringBuilder s = new StringBuilder();
        for (int what = 0; what <= 11; what++) {
            s.append(' ').append(what == 10 ? 0 : x.told(what));
        }
        for (int w = 0; w < 6; w++) {
            for (int i = 0; i < 8; i++) {
                s.append(' ').append(x.letter(w, i));
            }
        }
        for (int i = 0; i < 4; i++) {
            int key = x.flow(i);
            s.append("; ").append(key);
            for (int what = 0; key >= 0 && what < 18; what++) {
                s.append(' ').append(x.property(key, what));
            }
            for (int j = 0; key >= 0 && j < 8; j++) {
                s.append(' ').append(x.read(key, j)).append(' ').append(x.byteAt(key, 15 + j));
            }
            s.append(' ').append(x.possible(key)).append(' ').append(x.evasions(key));
            s.append(' ').append(x.replay(key, 0)).append(' ').append(x.replay(key, 1));
        }
        for (int i = 0; i < 14; i++) {
            s.append("; ").append(x.find(i, 0)).append(' ').append(x.find(i, 1));
            s.append(' ').append(x.find(i, 2)).append(' ').append(x.find(i, 3));
        }
        return s.toString();
    }

    static void same(String what, TornStreams x, TornStreams y) {
        due(what + ": digest()", x.digest(), y.digest());
        for (int w = 0; w < 6; w++) {
            for (int i = 0; i < 3; i++) {
                due(what + ": letter(" + w + ", " + i + ")", x.letter(w, i), y.letter(w, i));
            }
        }
        for (int i = 0; i < 4; i++) {
            int key = y.flow(i);
            due(what + ": flow(" + i + ")", x.flow(i), key);
            for (int policy = 0; policy < 4; policy++) {
                due(what + ": replay(" + key + ", " + policy + ")", x.replay(key, policy), y.replay(key, policy));
            }
        }
    }

    static void sameTexts(String what, TornStreams x, TornStreams y) {
        x.set(2, 40);
        y.set(2, 40);
        due(what + ": segment(60, 1)", x.segment(60, 1), y.segment(60, 1));
        for (int i = 0; i <= 42; i++) {
            due(what + ": byteAt(60, " + i + ")", x.byteAt(60, i), y.byteAt(60, i));
        }
    }

    // Of two objects that were made alike one gets the call; what can be seen of them afterwards is alike.
    static void changesNothing(String what, Supplier<TornStreams> make, ToLongFunction<TornStreams> call, long want) {
        TornStreams x = make.get();
        TornStreams y = make.get();
        due(what, call.applyAsLong(x), want);
        same("behind " + what, x, y);
        sameTexts("behind " + what, x, y);
        x = make.get();
        y = make.get();
        due(what + " again", call.applyAsLong(x), want);
        for (int i = 0; i < 5; i++) {
            due("undo behind " + what, x.undo(), y.undo());
            due("digest behind " + what + " and undo", x.digest(), y.digest());
        }
    }
}
