import java.util.function.Supplier;

/**
 * What the document describes of return values, text, words, flows and history: each sentence that names an edge
 * (too small, too great, empty, full, around again, refused) has its own test here.
 */
public final class DescriptionEdges extends Check {
    // ---- return values

    private static void codes() {
        says("Error codes: BAD (-1): an argument is out of range; STATE (-2): the call is not possible at present, as the method says; FULL (-3): a limit would be exceeded.");
        due("BAD", TornStreams.BAD, -1);
        due("STATE", TornStreams.STATE, -2);
        due("FULL", TornStreams.FULL, -3);
        due("NONE", TornStreams.NONE, -9);
    }

    private static void severalCodes() {
        says("If several of them apply to a call, the first one in this order is returned.");
        TornStreams x = sixPieces();
        due("full: segment(7, 0)", x.segment(7, 0), FULL);
        due("full: ifSegment(7, 0)", x.ifSegment(7, 0), FULL);
        due("too great and full: segment(7, 1000)", x.segment(7, 1000), BAD);
        due("too small and full: ifSegment(7, -1)", x.ifSegment(7, -1), BAD);
        x.clear();
        due("empty and full: segment(7, 0)", x.segment(7, 0), STATE);
        due("empty and full: ifSegment(7, 0)", x.ifSegment(7, 0), STATE);
        due("too great, empty and full: segment(7, 1000)", x.segment(7, 1000), BAD);
        due("too great, empty and full: ifSegment(7, 1000)", x.ifSegment(7, 1000), BAD);
        due("too great and empty: segment(100, 0)", x.segment(100, 0), BAD);
        due("too small and empty: ifSegment(-1, 0)", x.ifSegment(-1, 0), BAD);
        write(x, many("a", 40));
        due("too small and full: type(31)", x.type(31), BAD);
        due("too great and full: type(127)", x.type(127), BAD);
        due("too small and not defined: letter(5, -1)", x.letter(5, -1), BAD);
        due("too great and no flow: property(50, 18)", x.property(50, 18), BAD);
        due("too small and no flow: property(50, -1)", x.property(50, -1), BAD);
        due("too great and no flow: byteAt(50, 1101)", x.byteAt(50, 1101), BAD);
        due("too small and no flow: byteAt(50, -1)", x.byteAt(50, -1), BAD);
        due("too great and no flow: read(50, 8)", x.read(50, 8), BAD);
        due("too small and no flow: read(50, -1)", x.read(50, -1), BAD);
        due("too great and no flow: replay(50, 4)", x.replay(50, 4), BAD);
        due("too small and no flow: replay(50, -1)", x.replay(50, -1), BAD);
    }

    private static void refusedCalls() {
        says("A call that returns an error code, or -10 or less, changes nothing.");
        changesNothing("type(31)", Check::crowded, x -> x.type(31), BAD);
        changesNothing("type(127)", Check::crowded, x -> x.type(127), BAD);
        changesNothing("type(97)", Check::crowded, x -> x.type(97), FULL);
        changesNothing("define(6)", Check::crowded, x -> x.define(6), BAD);
        changesNothing("define(-1)", Check::crowded, x -> x.define(-1), BAD);
        changesNothing("define(0)", Check::crowded, x -> x.define(0), -13);
        changesNothing("define(5)", Check::crowded, x -> x.define(5), -13);
        changesNothing("forget(6)", Check::crowded, x -> x.forget(6), BAD);
        changesNothing("forget(-1)", Check::crowded, x -> x.forget(-1), BAD);
        changesNothing("forget(3)", Check::crowded, x -> x.forget(3), STATE);
        changesNothing("set(0, 4)", Check::crowded, x -> x.set(0, 4), BAD);
        changesNothing("set(1, 16)", Check::crowded, x -> x.set(1, 16), BAD);
        changesNothing("set(2, 0)", Check::crowded, x -> x.set(2, 0), BAD);
        changesNothing("set(2, 41)", Check::crowded, x -> x.set(2, 41), BAD);
        changesNothing("set(3, 1)", Check::crowded, x -> x.set(3, 1), BAD);
        changesNothing("segment(100, 0)", Check::crowded, x -> x.segment(100, 0), BAD);
        changesNothing("segment(1, 1000)", Check::crowded, x -> x.segment(1, 1000), BAD);
        changesNothing("segment(7, 0)", Check::crowded, x -> x.segment(7, 0), FULL);
        changesNothing("finish(100)", Check::crowded, x -> x.finish(100), BAD);
        changesNothing("finish(50)", Check::crowded, x -> x.finish(50), STATE);
        Supplier<TornStreams> noText = () -> {
            TornStreams x = crowded();
            x.clear();
            return x;
        };
        changesNothing("segment(1, 0) without text", noText, x -> x.segment(1, 0), STATE);
        changesNothing("segment(50, 0) without text", noText, x -> x.segment(50, 0), STATE);
        changesNothing("define(1) without text", noText, x -> x.define(1), -10);
        Supplier<TornStreams> noState = () -> {
            TornStreams x = crowded();
            while (x.undo() > 0) {
                x.told(10);
            }
            return x;
        };
        changesNothing("undo() without states", noState, x -> x.undo(), STATE);
    }

    private static void noValue() {
        says("NONE (-9) is not an error code: it means that there is no such value, and is returned only if no error code applies.");
        TornStreams x = with();
        segment(x, 7, 5, "a");
        due("nearest(7) without words", x.nearest(7), NONE);
        due("nearest(8) without words and flow", x.nearest(8), STATE);
        due("nearest(100) without words and flow", x.nearest(100), BAD);
        define(x, 0, "abcdefgh");
        due("letter(0, 8)", x.letter(0, 8), NONE);
        due("letter(6, 8)", x.letter(6, 8), BAD);
        due("letter(1, 8)", x.letter(1, 8), STATE);
        due("node(0, 1)", x.node(0, 1), NONE);
        due("node(9, 1)", x.node(9, 1), BAD);
        due("flow(1)", x.flow(1), NONE);
        due("flow(-1)", x.flow(-1), BAD);
        due("byteAt(7, 4)", x.byteAt(7, 4), NONE);
        due("byteAt(8, 4)", x.byteAt(8, 4), STATE);
        due("byteAt(7, 1101)", x.byteAt(7, 1101), BAD);
        due("read(7, 7)", x.read(7, 7), NONE);
        due("read(8, 7)", x.read(8, 7), STATE);
        due("read(7, 8)", x.read(7, 8), BAD);
        due("find(0, 3)", x.find(0, 3), NONE);
        due("find(0, 4)", x.find(0, 4), BAD);
    }

    // ---- the text buffer

    private static void textBuffer() {
        says("THE TEXT BUFFER has at most 40 bytes, each from 32 to 126.");
        for (int from = 32; from <= 126; from += 40) {
            TornStreams x = withSettings(0, 0, 40);
            int count = Math.min(40, 127 - from);
            for (int i = 0; i < count; i++) {
                due("type(" + (from + i) + ")", x.type(from + i), i + 1);
            }
            due("the bytes of the text", x.told(11), count);
            x.segment(0, 1);
            for (int i = 0; i < count; i++) {
                due("byte " + i, x.byteAt(0, 1 + i), from + i);
            }
        }
        TornStreams x = new TornStreams();
        for (int i = 1; i <= 40; i++) {
            due("type, byte " + i, x.type('a'), i);
        }
        due("byte 41", x.type('a'), FULL);
        due("the bytes of the text", x.told(11), 40);
        says("define() reads it as a word, and segment() as the bytes of a segment.");
        x = withSettings(0, 0, 40);
        write(x, "az");
        due("as a word", x.define(0), 3);
        due("as a segment", x.segment(0, 1), 0);
        due("byteAt(0, 1)", x.byteAt(0, 1), 'a');
        due("byteAt(0, 2)", x.byteAt(0, 2), 'z');
        due("letter(0, 1)", x.letter(0, 1), 25);
    }

    // ---- words

    private static void sixWords() {
        says("There are six words, 0 to 5; each is defined, as a sequence of 1 to 8 letters a to z, or not, as at first.");
        TornStreams x = new TornStreams();
        for (int w = 0; w < 6; w++) {
            due("letter(" + w + ", 0) at first", x.letter(w, 0), STATE);
            due("forget(" + w + ") at first", x.forget(w), STATE);
        }
        due("words at first", x.told(0), 0);
        String[] words = {"a", "z", "abcdefgh", "ijklmnop", "qrstuvwx", "yz"};
        for (int w = 0; w < 6; w++) {
            due("define(" + w + ")", define(x, w, words[w]) > 0 ? 1 : 0, 1);
            due("words", x.told(0), (1 << w + 1) - 1);
        }
        says("Letters have the numbers 0 (a) to 25 (z).");
        for (int w = 0; w < 6; w++) {
            for (int i = 0; i < words[w].length(); i++) {
                due("letter(" + w + ", " + i + ")", x.letter(w, i), words[w].charAt(i) - 'a');
            }
            due("letter behind the last", x.letter(w, words[w].length()), NONE);
        }
        due("next(0, 0), which is a", x.next(0, 0), 1);
        due("next(0, 25), which is z", x.next(0, 25), 5);
    }

    private static void sameSequence() {
        says("Two of them can be the same sequence.");
        TornStreams x = with("ab", "cd", "ab", "ab");
        due("nodes", x.told(1), 5);
        due("words of ab", x.node(3, 4), 13);
        due("finds", segment(x, 1, 0, "ab"), 3);
        latest(x, 2, 1, 0, 0, 2);
        latest(x, 1, 1, 2, 0, 2);
        latest(x, 0, 1, 3, 0, 2);
        due("nodes without one of them", x.forget(0), 5);
        due("words of ab", x.node(3, 4), 12);
        due("nodes without two of them", x.forget(3), 5);
        due("nodes without all of them", x.forget(2), 3);
    }

    private static void nodes() {
        says("The automaton has a node for each sequence of letters with which some defined word begins (the empty sequence and the whole words included).");
        TornStreams x = new TornStreams();
        due("nodes without words", x.told(1), 1);
        due("length of node 0", x.node(0, 0), 0);
        due("node(1, 0) without words", x.node(1, 0), BAD);
        due("one letter", define(x, 0, "q"), 2);
        due("a beginning of another", define(x, 1, "qa"), 3);
        due("nothing new", define(x, 2, "q"), 3);
        x = with("aaaaaaaa", "bbbbbbbb", "cccccccc", "dddddddd", "eeeeeeee", "zzzzzzzz");
        due("as many nodes as there can be", x.told(1), 49);
        due("node(48, 0)", x.node(48, 0), 8);
        due("node(49, 0)", x.node(49, 0), BAD);
        says("Nodes are numbered from 0 in the order of their lengths, those of the same length in alphabetical order; so node 0 is the empty sequence.");
        for (int n = 1; n <= 48; n++) {
            int letter = (n - 1) % 6 == 5 ? 25 : (n - 1) % 6;
            due("length of node " + n, x.node(n, 0), (n + 5) / 6);
            due("last letter of node " + n, x.node(n, 2), letter);
            due("node " + n + " without it", x.node(n, 1), Math.max(0, n - 6));
        }
        // Not in the order of the words, and the letters before the last one count first: az, ba, then azc, bab.
        x = with("bab", "azc", "b", "c");
        int[][] want = {{0, NONE, NONE}, {1, 0, 0}, {1, 0, 1}, {1, 0, 2}, {2, 1, 25}, {2, 2, 0}, {3, 4, 2}, {3, 5, 1}};
        for (int n = 0; n < want.length; n++) {
            for (int what = 0; what < 3; what++) {
                due("node(" + n + ", " + what + ")", x.node(n, what), want[n][what]);
            }
        }
    }

    // Nodes of aaab, abab, bab, ab: 1 a, 2 b, 3 aa, 4 ab, 5 ba, 6 aaa, 7 aba, 8 bab, 9 aaab, 10 abab.
    private static final String[] FAILING = {"aaab", "abab", "bab", "ab", "b", "ab"};

    private static void fails() {
        says("The fail of a node other than 0 is the longest sequence that is shorter than it, with which it ends, and which is a node.");
        TornStreams x = with(FAILING);
        int[] fails = {NONE, 0, 0, 1, 2, 1, 3, 5, 4, 4, 8};
        for (int n = 0; n < fails.length; n++) {
            due("fail of node " + n, x.node(n, 3), fails[n]);
        }
        x = with("aaaaaaaa");
        for (int n = 1; n <= 8; n++) {
            due("fail of " + n + " a, shorter than it", x.node(n, 3), n - 1);
        }
        x = with("abcdefgh", "h", "gh");
        // Nodes: 1 a, 2 g, 3 h, 4 ab, 5 gh, 6 abc, .. 10 abcdefg, 11 abcdefgh.
        due("fail of the longest word", x.node(11, 3), 5);
        due("fail of gh", x.node(5, 3), 3);
        due("fail of abcdefg", x.node(10, 3), 2);
        due("fail of abcdef", x.node(9, 3), 0);
    }

    private static void nexts() {
        says("The next node of a node by a letter is the longest node with which the sequence of the node, followed by the letter, ends.");
        TornStreams x = with(FAILING);
        int[] byA = {1, 3, 5, 6, 7, 3, 6, 3, 7, 7, 7};
        int[] byB = {2, 4, 2, 4, 2, 8, 9, 10, 2, 2, 2};
        for (int n = 0; n < byA.length; n++) {
            due("next(" + n + ", 0)", x.next(n, 0), byA[n]);
            due("next(" + n + ", 1)", x.next(n, 1), byB[n]);
            due("next(" + n + ", 2)", x.next(n, 2), 0);
            due("next(" + n + ", 25)", x.next(n, 25), 0);
        }
        x = with("aaaaaaaa");
        for (int n = 0; n <= 8; n++) {
            due("next(" + n + ", 0)", x.next(n, 0), Math.min(8, n + 1));
        }
        x = new TornStreams();
        for (int letter = 0; letter < 26; letter++) {
            due("next(0, " + letter + ") without words", x.next(0, letter), 0);
        }
    }

    private static void wordsOfNodes() {
        says("The words of a node are the defined words with which its sequence ends.");
        TornStreams x = with(FAILING);
        int[] sets = {0, 0, 16, 0, 56, 0, 0, 0, 60, 57, 62};
        for (int n = 0; n < sets.length; n++) {
            due("words of node " + n, x.node(n, 4), sets[n]);
        }
        x.forget(4);
        due("b without word 4", x.node(2, 4), 0);
        due("ab without word 4", x.node(4, 4), 40);
        due("abab without word 4", x.node(10, 4), 46);
    }

    // ---- flows

    private static void keys() {
        says("A flow has a key, 0 to 99.");
        TornStreams x = with("a");
        due("segment(0, 0)", x.segment(0, 0), 1);
        due("segment(99, 0)", x.segment(99, 0), 1);
        order(x, 0, 99);
        for (int key : new int[] {-1, 100, MIN, MAX, 256}) {
            due("segment(" + key + ", 0)", x.segment(key, 0), BAD);
            due("finish(" + key + ")", x.finish(key), BAD);
            due("property(" + key + ", 0)", x.property(key, 0), BAD);
            due("byteAt(" + key + ", 0)", x.byteAt(key, 0), BAD);
            due("possible(" + key + ")", x.possible(key), BAD);
            due("read(" + key + ", 0)", x.read(key, 0), BAD);
            due("ifSegment(" + key + ", 0)", x.ifSegment(key, 0), BAD);
            due("replay(" + key + ", 0)", x.replay(key, 0), BAD);
            due("evasions(" + key + ")", x.evasions(key), BAD);
            due("nearest(" + key + ")", x.nearest(key), BAD);
        }
        for (int key : new int[] {1, 98}) {
            due("finish(" + key + ")", x.finish(key), STATE);
            due("property(" + key + ", 0)", x.property(key, 0), STATE);
            due("byteAt(" + key + ", 0)", x.byteAt(key, 0), STATE);
            due("possible(" + key + ")", x.possible(key), STATE);
            due("read(" + key + ", 0)", x.read(key, 0), STATE);
            due("replay(" + key + ", 0)", x.replay(key, 0), STATE);
            due("evasions(" + key + ")", x.evasions(key), STATE);
            due("nearest(" + key + ")", x.nearest(key), STATE);
            due("ifSegment(" + key + ", 0)", x.ifSegment(key, 0), 1);
        }
    }

    private static void fourFlows() {
        says("At most four flows are known, in the order of their latest segments.");
        TornStreams x = new TornStreams();
        order(x);
        segment(x, 9, 0, "a");
        order(x, 9);
        segment(x, 3, 0, "a");
        order(x, 9, 3);
        segment(x, 9, 9, "a");
        order(x, 3, 9);
        segment(x, 5, 0, "a");
        segment(x, 1, 0, "a");
        order(x, 3, 9, 5, 1);
        segment(x, 5, 1, "a");
        order(x, 3, 9, 1, 5);
        segment(x, 5, 2, "a");
        order(x, 3, 9, 1, 5);
        segment(x, 7, 0, "a");
        order(x, 9, 1, 5, 7);
        due("flows forgotten in step 1", x.told(9), 1);
        x.finish(1);
        order(x, 9, 5, 7);
        segment(x, 1, 0, "a");
        order(x, 9, 5, 7, 1);
        due("a fourth one forgets none", x.told(9), 1);
    }

    private static void settings() {
        says("The settings are a policy (0 to 3; 0 at first), flags (0 to 15; 0 at first) and a bound (1 to 40; 10 at first); a flow keeps the settings of the time at which it begins.");
        int[][] ranges = {{0, 3, 0}, {0, 15, 0}, {1, 40, 10}};
        for (int what = 0; what < 3; what++) {
            TornStreams x = new TornStreams();
            int lowest = ranges[what][0];
            int highest = ranges[what][1];
            due("told at first", x.told(2 + what), ranges[what][2]);
            due("a flow of the time at first", segment(x, 90, 0, "a"), 0);
            int before = ranges[what][2];
            for (int v = lowest; v <= highest; v++) {
                due("set(" + what + ", " + v + ")", x.set(what, v), before);
                due("told(" + (2 + what) + ")", x.told(2 + what), v);
                x.segment(v, 0);
                due("a flow that begins", x.property(v, 3 + what), v);
                before = v;
            }
            due("the other settings", x.told(2) + x.told(3) + x.told(4), 10 - ranges[what][2] + highest);
            for (int v : new int[] {lowest - 1, highest + 1, MIN, MAX, lowest + 256}) {
                due("set(" + what + ", " + v + ")", x.set(what, v), BAD);
            }
            due("told(" + (2 + what) + ")", x.told(2 + what), highest);
            for (int v = Math.max(lowest, highest - 2); v <= highest; v++) {
                x.segment(v, 500);
                due("a flow keeps it", x.property(v, 3 + what), v);
            }
        }
        TornStreams x = new TornStreams();
        segment(x, 1, 0, "a");
        x.set(0, 3);
        x.set(1, 15);
        x.set(2, 1);
        x.finish(1);
        segment(x, 1, 0, "a");
        int[] want = {3, 15, 1};
        for (int what = 0; what < 3; what++) {
            due("a flow that begins again", x.property(1, 3 + what), want[what]);
        }
    }

    private static void firstOffset() {
        says("A flow has an offset, 0 at first: the index of its next byte.");
        TornStreams x = new TornStreams();
        segment(x, 1, 1, "a");
        due("offset at first", x.property(1, 0), 0);
        segment(x, 2, 0, "a");
        due("offset behind a byte", x.property(2, 0), 1);
        segment(x, 1, 0, "a");
        due("offset behind two bytes", x.property(1, 0), 2);
    }

    private static void sixPiecesAtMost() {
        says("It has pieces (at most 6): parts of segments whose bytes have not all been delivered.");
        TornStreams x = sixPieces();
        due("pieces", x.property(7, 1), 6);
        due("a seventh", x.segment(7, 14), FULL);
        due("pieces", x.property(7, 1), 6);
        due("undo()", x.undo(), 3);
        due("pieces", x.property(7, 1), 5);
        due("a sixth that is delivered with one of them", segment(x, 7, 0, "aa"), 0);
        properties(x, 7, 3, 4, 4);
        due("a fifth", segment(x, 7, 20, "a"), 0);
        due("a sixth", x.segment(7, 30), 0);
        due("a seventh", x.segment(7, 40), FULL);
        due("six pieces of another flow", x.segment(8, 0), 0);
    }

    private static void covered() {
        says("An offset that is not smaller than that of the flow is covered by a piece if the piece has a byte for it.");
        TornStreams x = withSettings(0, 0, 40);
        segment(x, 1, 0, "abc");
        segment(x, 1, 5, "de");
        int[] want = {NONE, NONE, NONE, NONE, NONE, 'd', 'e', NONE};
        for (int i = 0; i < want.length; i++) {
            due("byteAt(1, " + i + ")", x.byteAt(1, i), want[i]);
        }
        due("covered", x.property(1, 2), 2);
        segment(x, 1, 6, "fg");
        due("covered, one by both", x.property(1, 2), 3);
        segment(x, 1, 5, "hijk");
        due("covered, all by one", x.property(1, 2), 4);
        segment(x, 1, 12, "l");
        due("covered, one apart", x.property(1, 2), 5);
        segment(x, 1, 1, "xxxxx");
        properties(x, 1, 9, 1, 1);
    }

    private static void logs() {
        says("A flow has a log of its first 10 segments: their offsets and bytes.");
        TornStreams x = with("j", "k", "ab");
        for (int i = 0; i < 12; i++) {
            segment(x, 1, i, "" + (char) ('a' + i));
            due("segments in the log", x.property(1, 17), Math.min(10, i + 1));
            due("segments so far", x.property(1, 9), i + 1);
        }
        due("the tenth is in it, the eleventh is not", x.replay(1, 0), 5);
        // A log of ten segments of 40 bytes, the first and the last byte of each with a word of its own.
        x = withSettings(0, 0, 40, "p", "q", "aq");
        for (int i = 0; i < 9; i++) {
            segment(x, 1, 40 * i, many("a", 40));
        }
        due("nothing yet", x.replay(1, 0), 0);
        segment(x, 1, 360, "p" + many("a", 38) + "q");
        due("the whole of the tenth", x.replay(1, 0), 7);
        due("finds", x.property(1, 15), 3);
        x = with("ab");
        segment(x, 1, 0, "a");
        segment(x, 1, 1, "b");
        x.finish(1);
        segment(x, 1, 0, "a");
        due("nothing of a flow that was forgotten", x.replay(1, 0), 0);
        due("segments in the log", x.property(1, 17), 1);
    }

    // ---- history

    private static void records() {
        says("Each successful call of define(), forget(), set(), segment() and finish() records the state (words, settings, flows, finds and counts) before it.");
        TornStreams x = new TornStreams();
        write(x, "ab");
        long[] digests = new long[5];
        digests[0] = x.digest();
        due("define(0)", x.define(0), 3);
        due("states", x.told(10), 1);
        digests[1] = x.digest();
        due("segment(1, 0)", x.segment(1, 0), 1);
        due("states", x.told(10), 2);
        digests[2] = x.digest();
        due("forget(0)", x.forget(0), 1);
        due("states", x.told(10), 3);
        digests[3] = x.digest();
        due("finish(1)", x.finish(1), 0);
        due("states", x.told(10), 4);
        for (int i = 3; i >= 0; i--) {
            due("undo()", x.undo(), i);
            due("the state before", x.digest(), digests[i]);
        }
        due("set(0, 0), which is no change", x.set(0, 0), 0);
        due("states", x.told(10), 1);
        due("an old segment", x.segment(1, 0), 0);
        due("states", x.told(10), 2);
        due("an old segment", x.segment(1, 0), 0);
        due("states", x.told(10), 3);
        due("undo()", x.undo(), 2);
        x.type('a');
        x.clear();
        x.type('a');
        x.letter(0, 0);
        x.node(0, 0);
        x.next(0, 0);
        x.flow(0);
        x.property(1, 0);
        x.byteAt(1, 0);
        x.possible(1);
        x.read(1, 0);
        x.find(0, 0);
        x.ifSegment(1, 0);
        x.replay(1, 0);
        x.evasions(1);
        x.nearest(1);
        x.digest();
        due("other calls record nothing", x.told(10), 2);
    }

    private static void fourStates() {
        says("At most 4 recorded states are remembered: when one more is recorded, the oldest one is dropped; undo() restores the latest one and removes it.");
        for (int acts = 1; acts <= 9; acts++) {
            TornStreams x = new TornStreams();
            for (int i = 1; i <= acts; i++) {
                due("set(2, " + i + ")", x.set(2, i), i == 1 ? 10 : i - 1);
                due("states", x.told(10), Math.min(4, i));
            }
            int states = Math.min(4, acts);
            for (int i = 1; i <= states; i++) {
                due("undo()", x.undo(), states - i);
                due("states", x.told(10), states - i);
                due("bound", x.told(4), acts - i == 0 ? 10 : acts - i);
            }
            due("undo() without states", x.undo(), STATE);
            due("bound", x.told(4), acts <= 4 ? 10 : acts - 4);
            due("set(2, 30)", x.set(2, 30), acts <= 4 ? 10 : acts - 4);
            due("undo()", x.undo(), 0);
            due("undo() without states", x.undo(), STATE);
        }
    }

    private static long act(TornStreams x, int i) {
        switch (i) {
            case 0: return x.set(1, 15);
            case 1: return x.forget(0);
            case 2: return x.forget(5);
            case 3: return define(x, 4, "c");
            case 4: return x.finish(1);
            case 5: return x.finish(2);
            case 6: return segment(x, 1, 12, "1bab%%5 zyxw");
            case 7: return segment(x, 2, 12, "ab%%5zyxw ");
            case 8: return segment(x, 1, 0, "ab");
            case 9: return segment(x, 60, 7, "abab");
            case 10: return segment(x, 61, 7, "ab ");
            default: return x.set(0, 2);
        }
    }

    // %61, a run of blanks and a word have begun before; the pieces at 20 and 21 come, too.
    private static String afterwards(TornStreams x) {
        segment(x, 1, 12, "1b");
        segment(x, 2, 9, " b");
        segment(x, 1, 14, "      ");
        segment(x, 53, 3, "b");
        return view(x);
    }

    private static void restored() {
        says("undo() restores the latest one and removes it");
        for (int i = 0; i < 12; i++) {
            for (int j = 0; j < 12; j++) {
                TornStreams x = busy();
                TornStreams y = busy();
                if (act(y, i) < 0) {
                    due("the act " + i, -1, 0);
                }
                act(x, i);
                if (act(x, j) < 0) {
                    continue;
                }
                due("undo of " + j + " behind " + i, x.undo(), 3);
                write(x, "a");
                write(y, "a");
                sameText("undo of " + j + " behind " + i, view(x), view(y));
            }
        }
        for (int i = 0; i < 12; i++) {
            for (int j = 0; j < 12; j++) {
                TornStreams x = busy();
                act(x, i);
                int back = act(x, j) < 0 ? 3 : 2;
                for (int states = 3; states >= back; states--) {
                    due("undo of " + i + " and " + j, x.undo(), states);
                }
                sameText("afterwards, " + i + " and " + j, afterwards(x), afterwards(busy()));
            }
        }
    }

    public static void main(String[] args) {
        run(
            DescriptionEdges::codes, DescriptionEdges::severalCodes, DescriptionEdges::refusedCalls,
            DescriptionEdges::noValue, DescriptionEdges::textBuffer, DescriptionEdges::sixWords,
            DescriptionEdges::sameSequence, DescriptionEdges::nodes, DescriptionEdges::fails,
            DescriptionEdges::nexts, DescriptionEdges::wordsOfNodes, DescriptionEdges::keys,
            DescriptionEdges::fourFlows, DescriptionEdges::settings, DescriptionEdges::firstOffset,
            DescriptionEdges::sixPiecesAtMost, DescriptionEdges::covered, DescriptionEdges::logs,
            DescriptionEdges::records, DescriptionEdges::fourStates, DescriptionEdges::restored);
    }
}
