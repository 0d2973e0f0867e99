/** The promises of the document one by one, with answers that were worked out by hand. */
public final class PromiseRuns extends Check {
    private static long hashed(long h, long... values) {
        for (long v : values) {
            h = 31 * h + v;
        }
        return h;
    }

    private static void newObject() {
        TornStreams x = new TornStreams();
        int[] want = {0, 1, 0, 0, 10, 0, 0, 0, 0, 0, 0, 0};
        for (int what = 0; what < want.length; what++) {
            due("told(" + what + ") of a new object", x.told(what), want[what]);
        }
        due("flow(0)", x.flow(0), NONE);
        due("find(0, 0)", x.find(0, 0), NONE);
        due("clear()", x.clear(), 0);
        due("BAD", TornStreams.BAD, BAD);
        due("STATE", TornStreams.STATE, STATE);
        due("FULL", TornStreams.FULL, FULL);
        due("NONE", TornStreams.NONE, NONE);
        TornStreams y = with("ab");
        due("told(0) of another object", x.told(0), 0);
        due("told(0) of this one", y.told(0), 1);
    }

    private static void type() {
        TornStreams x = new TornStreams();
        due("type(31)", x.type(31), BAD);
        due("type(127)", x.type(127), BAD);
        due("type(-1)", x.type(-1), BAD);
        due("type(353), which is 97 in its last byte", x.type(353), BAD);
        due("type(max)", x.type(Integer.MAX_VALUE), BAD);
        due("told(11)", x.told(11), 0);
        due("type(32)", x.type(32), 1);
        due("type(126)", x.type(126), 2);
        for (int i = 3; i <= 40; i++) {
            due("type(97)", x.type(97), i);
        }
        due("type(97) in a full buffer", x.type(97), FULL);
        due("type(31) in a full buffer", x.type(31), BAD);
        due("told(11)", x.told(11), 40);
        due("told(10): not recorded", x.told(10), 0);
    }

    private static void clear() {
        TornStreams x = new TornStreams();
        write(x, "abc");
        due("clear()", x.clear(), 3);
        due("clear()", x.clear(), 0);
        due("told(11)", x.told(11), 0);
        due("told(10): not recorded", x.told(10), 0);
        write(x, "z");
        x.define(0);
        due("letter(0, 0) behind clear", x.letter(0, 0), 25);
    }

    private static void define() {
        TornStreams x = new TornStreams();
        due("define(0), empty", x.define(0), -10);
        due("define(-1)", x.define(-1), BAD);
        due("define(6)", x.define(6), BAD);
        due("define a-z", define(x, 0, "az"), 3);
        due("told(11): the text stays", x.told(11), 2);
        due("same word again", x.define(5), 3);
        due("told(0)", x.told(0), 33);
        due("eight letters", define(x, 1, "abcdefgh"), 10);
        due("nine letters", define(x, 1, "abcdefghi"), -18);
        due("a ninth byte that is no letter", define(x, 1, "abcdefgh-"), -18);
        due("no letter before the ninth", define(x, 1, "abcd{fghij"), -14);
        due("the byte before a", define(x, 1, "ab`"), -12);
        due("a blank first", define(x, 1, " "), -10);
        due("a capital", define(x, 1, "aBC"), -11);
        due("what failed changed nothing", x.told(1), 10);
        due("told(10)", x.told(10), 3);
        due("in place of what it was", define(x, 1, "b"), 4);
        due("letter(1, 1)", x.letter(1, 1), NONE);
        x = with("ab", "cd");
        segment(x, 3, 0, "a");
        due("node before", x.property(3, 6), 1);
        define(x, 2, "ac");
        due("node behind define", x.property(3, 6), 0);
        due("possible behind define", x.possible(3), 1);
        due("so no find", segment(x, 3, 1, "b"), 0);
    }

    private static void forget() {
        TornStreams x = with("ab", "abc", "b");
        due("forget(6)", x.forget(6), BAD);
        due("forget(-1)", x.forget(-1), BAD);
        due("forget(3)", x.forget(3), STATE);
        segment(x, 1, 0, "ca");
        due("node before", x.property(1, 6), 1);
        due("forget(1)", x.forget(1), 4);
        due("told(0)", x.told(0), 5);
        due("node behind", x.property(1, 6), 0);
        due("possible behind", x.possible(1), 1);
        due("forget(1) again", x.forget(1), STATE);
        due("forget(0)", x.forget(0), 2);
        due("forget(2)", x.forget(2), 1);
        due("told(0)", x.told(0), 0);
    }

    private static void letter() {
        TornStreams x = with("az", "abcdefgh");
        due("letter(0, 0)", x.letter(0, 0), 0);
        due("letter(0, 1)", x.letter(0, 1), 25);
        due("letter(0, 2)", x.letter(0, 2), NONE);
        due("letter(0, max)", x.letter(0, Integer.MAX_VALUE), NONE);
        due("letter(1, 7)", x.letter(1, 7), 7);
        due("letter(1, 8)", x.letter(1, 8), NONE);
        due("letter(2, 0)", x.letter(2, 0), STATE);
        due("letter(2, -1)", x.letter(2, -1), BAD);
        due("letter(-1, 0)", x.letter(-1, 0), BAD);
        due("letter(6, 0)", x.letter(6, 0), BAD);
        x.forget(1);
        due("letter(1, 0), forgotten", x.letter(1, 0), STATE);
    }

    // Nodes: 0 "", 1 a, 2 b, 3 c, 4 ab, 5 bc, 6 ca, 7 abc, 8 cab, 9 caba.
    private static final String[] MIXED = {"abc", "bc", "caba", "c", "b", "bc"};

    private static void node() {
        TornStreams x = with(MIXED);
        int[][] want = {
            {0, NONE, NONE, NONE, 0}, {1, 0, 0, 0, 0}, {1, 0, 1, 0, 16}, {1, 0, 2, 0, 8},
            {2, 1, 1, 2, 16}, {2, 2, 2, 3, 42}, {2, 3, 0, 1, 0},
            {3, 4, 2, 5, 43}, {3, 6, 1, 4, 16}, {4, 8, 0, 1, 4}};
        for (int n = 0; n < want.length; n++) {
            for (int what = 0; what < 5; what++) {
                due("node(" + n + ", " + what + ")", x.node(n, what), want[n][what]);
            }
        }
        due("node(10, 0)", x.node(10, 0), BAD);
        due("node(-1, 0)", x.node(-1, 0), BAD);
        due("node(0, 5)", x.node(0, 5), BAD);
        due("node(0, -1)", x.node(0, -1), BAD);
        x = with("aaaaaaaa", "bbbbbbbb", "cccccccc", "dddddddd", "eeeeeeee", "ffffffff");
        due("most nodes", x.told(1), 49);
        due("node(48, 4)", x.node(48, 4), 32);
        due("node(48, 3)", x.node(48, 3), 42);
        due("node(49, 0)", x.node(49, 0), BAD);
    }

    private static void next() {
        TornStreams x = with(MIXED);
        int[][] want = {
            {1, 2, 3, 0}, {1, 4, 3, 0}, {1, 2, 5, 0}, {6, 2, 3, 0}, {1, 2, 7, 0},
            {6, 2, 3, 0}, {1, 8, 3, 0}, {6, 2, 3, 0}, {9, 2, 7, 0}, {1, 4, 3, 0}};
        for (int n = 0; n < want.length; n++) {
            for (int l = 0; l < 4; l++) {
                due("next(" + n + ", " + l + ")", x.next(n, l), want[n][l]);
            }
        }
        due("next(9, 25)", x.next(9, 25), 0);
        due("next(0, 26)", x.next(0, 26), BAD);
        due("next(0, -1)", x.next(0, -1), BAD);
        due("next(10, 0)", x.next(10, 0), BAD);
        due("next(-1, 0)", x.next(-1, 0), BAD);
    }

    private static void set() {
        TornStreams x = new TornStreams();
        int[][] ranges = {{0, 3, 0}, {0, 15, 0}, {1, 40, 10}};
        for (int what = 0; what < 3; what++) {
            due("set too small", x.set(what, ranges[what][0] - 1), BAD);
            due("set too great", x.set(what, ranges[what][1] + 1), BAD);
            due("set the greatest", x.set(what, ranges[what][1]), ranges[what][2]);
            due("set the smallest", x.set(what, ranges[what][0]), ranges[what][1]);
            due("told", x.told(2 + what), ranges[what][0]);
        }
        due("set(3, 1)", x.set(3, 1), BAD);
        due("set(-1, 1)", x.set(-1, 1), BAD);
        x = new TornStreams();
        x.set(0, 2);
        x.set(1, 5);
        x.set(2, 7);
        segment(x, 1, 0, "x");
        due("set(0, 1)", x.set(0, 1), 2);
        due("set(1, 0)", x.set(1, 0), 5);
        due("set(2, 9)", x.set(2, 9), 7);
        segment(x, 2, 0, "x");
        segment(x, 1, 1, "x");
        int[][] want = {{2, 5, 7}, {1, 0, 9}};
        for (int what = 0; what < 3; what++) {
            due("a flow keeps its setting", x.property(1, 3 + what), want[0][what]);
            due("a later flow has the new one", x.property(2, 3 + what), want[1][what]);
        }
    }

    private static void segmentErrors() {
        TornStreams x = new TornStreams();
        due("segment(-1, 0)", x.segment(-1, 0), BAD);
        due("segment(100, 0)", x.segment(100, 0), BAD);
        due("segment(0, -1)", x.segment(0, -1), BAD);
        due("segment(0, 1000)", x.segment(0, 1000), BAD);
        due("segment(0, 0), empty", x.segment(0, 0), STATE);
        due("told(5)", x.told(5), 0);
        x.type('a');
        due("segment(99, 999)", x.segment(99, 999), 0);
        due("the text stays", x.told(11), 1);
        x.set(2, 40);
        for (int i = 0; i < 6; i++) {
            due("pieces", x.segment(7, 2 * i + 1), 0);
        }
        due("told(10)", x.told(10), 4);
        due("a seventh piece", x.segment(7, 20), FULL);
        due("full, though it would fill a hole", x.segment(7, 0), FULL);
        due("another key", x.segment(8, 0), 0);
        due("the order did not change", x.flow(1), 7);
        x.clear();
        due("full and empty", x.segment(7, 0), STATE);
        due("full, empty and bad", x.segment(7, 1000), BAD);
        x = new TornStreams();
        x.set(2, 40);
        segment(x, 7, 0, "ab");
        for (int i = 0; i < 6; i++) {
            segment(x, 7, 2 * i + 3, "a");
        }
        due("full, though it would be old", segment(x, 7, 0, "a"), FULL);
    }

    private static void segmentFlows() {
        TornStreams x = with("ab");
        for (int key = 1; key <= 4; key++) {
            segment(x, key, 0, "xx");
        }
        segment(x, 1, 0, "x");
        due("an old segment", x.property(1, 10), 1);
        due("moves its flow, too", x.flow(0), 2);
        due("the last one", x.flow(3), 1);
        segment(x, 9, 0, "a");
        due("told(9)", x.told(9), 1);
        due("the first one is forgotten", x.property(2, 0), STATE);
        int[] order = {3, 4, 1, 9};
        for (int i = 0; i < 4; i++) {
            due("flow(" + i + ")", x.flow(i), order[i]);
        }
        x.set(1, 2);
        segment(x, 5, 0, "%");
        for (int key = 20; key < 23; key++) {
            segment(x, key, 0, "x");
        }
        int before = x.told(7) + x.told(8);
        segment(x, 24, 0, "x");
        due("forgotten with what it holds", x.told(7) + x.told(8), before);
        due("the new one holds nothing of it", x.property(24, 14), 1);
        segment(x, 5, 0, "x");
        properties(x, 5, 1, 0, 0, 0, 2, 10, 0, 1, 0, 1, 0, 0, 0, 0, 1, 0, 0, 1);
    }

    // Before offset 0 comes there are five pieces; they disagree at 2, 3 and 4.
    private static void segmentPolicies() {
        String[] want = {"xaccg", "xaffh", "xabbg", "xabbg"};
        for (int policy = 0; policy < 4; policy++) {
            TornStreams x = new TornStreams();
            x.set(0, policy);
            segment(x, 1, 2, "cc");
            segment(x, 1, 1, "abb");
            segment(x, 1, 3, "eg");
            segment(x, 1, 2, "ff");
            segment(x, 1, 4, "h");
            due("byteAt(1, 0)", x.byteAt(1, 0), NONE);
            segment(x, 1, 0, "x");
            due("offset", x.property(1, 0), 5);
            due("conflicts", x.property(1, 11), 3);
            for (int i = 0; i < 5; i++) {
                due("policy " + policy + ", character " + i, x.read(1, 4 - i), want[policy].charAt(i));
            }
        }
        TornStreams x = new TornStreams();
        x.set(0, 3);
        segment(x, 1, 1, "aa");
        segment(x, 1, 2, "bbbb");
        segment(x, 1, 0, "cccc");
        due("of the longest the one that came first", x.byteAt(1, 3), NONE);
        due("delivered", x.property(1, 0), 6);
        due("character 1: by all its bytes", x.read(1, 4), 'c');
        due("character 2: the first one", x.read(1, 3), 'b');
        x = new TornStreams();
        x.set(0, 2);
        segment(x, 1, 0, "aab");
        segment(x, 1, 5, "dd");
        segment(x, 1, 4, "ee");
        segment(x, 1, 4, "ff");
        due("smallest offset, first one", x.byteAt(1, 5), 'e');
        segment(x, 1, 2, "ggg");
        due("an older offset goes first", x.read(1, 2), 'g');
    }

    private static void segmentGaps() {
        TornStreams x = with("ab", "b");
        x.set(2, 3);
        due("covered: 3, no more than the bound", segment(x, 1, 4, "abx"), 0);
        properties(x, 1, 0, 1, 3, 0, 0, 3, 0, 1, 0, 1, 0, 0, 0, 0, 0);
        due("covered twice counts once", segment(x, 1, 5, "yz"), 0);
        properties(x, 1, 0, 2, 3);
        // The gap leads to ab, ax (conflicts), then the hole at 7, 2 offsets left.
        due("a gap", segment(x, 1, 8, "bb"), 2);
        properties(x, 1, 7, 1, 2, 0, 0, 3, 0, 1, 0, 3, 0, 2, 1, 4, 3, 2, 0, 3);
        latest(x, 0, 1, 1, 5, 6);
        latest(x, 1, 1, 0, 4, 6);
        // Two gaps by one segment: from 0 to 5, and from 7 to 9.
        segment(x, 2, 5, "ab");
        due("two gaps", segment(x, 2, 9, "abxxb"), 5);
        properties(x, 2, 14, 0, 0, 0, 0, 3, 2, 1, 0, 2, 0, 0, 2, 7, 7, 5, 0, 2);
        x = with("ab");
        x.set(2, 1);
        segment(x, 1, 3, "a");
        due("bound 1 is not exceeded", x.property(1, 12), 0);
        segment(x, 1, 3, "a");
        due("by the same offset neither", x.property(1, 12), 0);
        due("by one more", segment(x, 1, 5, "b"), 0);
        properties(x, 1, 4, 1, 1);
        due("gap from 4 to 5", segment(x, 1, 7, "x"), 1);
        latest(x, 0, 1, 0, NONE, 6);
        // As many gaps as there can be pieces.
        x = with("a");
        x.set(2, 5);
        for (int i = 1; i <= 5; i++) {
            due("five pieces", segment(x, 1, 2 * i, "a"), 0);
        }
        due("six gaps", segment(x, 1, 20, "abcabc"), 7);
        properties(x, 1, 26, 0, 0, 0, 0, 5, 0, 1, 0, 6, 0, 0, 6, 15, 11, 7, 0, 6);
    }

    private static void segmentReading() {
        TornStreams x = with("ab", "bab", "b", "ab");
        due("ab", segment(x, 1, 0, "ab"), 3);
        latest(x, 0, 1, 3, 0, 2);
        latest(x, 1, 1, 2, 1, 2);
        latest(x, 2, 1, 0, 0, 2);
        due("b behind aba", segment(x, 1, 2, "ab"), 4);
        latest(x, 2, 1, 1, 1, 4);
        due("another character", segment(x, 1, 4, "-a"), 0);
        due("node a", x.property(1, 6), 1);
        due("another character", segment(x, 1, 6, "A"), 0);
        due("node 0", x.property(1, 6), 0);
        due("possible", x.possible(1), 1);
        x = with("abc", "bc");
        x.set(2, 1);
        segment(x, 1, 0, "a");
        due("bound", segment(x, 1, 2, "ca"), 2);
        latest(x, 0, 1, 1, NONE, 3);
        latest(x, 1, 1, 0, NONE, 3);
        due("possible", x.possible(1), 2);
        due("sure behind a gap", segment(x, 1, 4, "bc"), 2);
        latest(x, 0, 1, 1, 4, 6);
        latest(x, 1, 1, 0, 3, 6);
        x = with("abc", "c");
        x.set(2, 1);
        due("a gap of one byte", segment(x, 1, 1, "bc"), 2);
        latest(x, 0, 1, 0, NONE, 3);
        latest(x, 1, 1, 1, 2, 3);
        due("too short a gap", segment(x, 3, 1, "cc"), 2);
        due("a gap of two bytes", segment(x, 2, 2, "cc"), 3);
        latest(x, 0, 2, 1, 3, 4);
        latest(x, 1, 2, 0, NONE, 3);
        latest(x, 2, 2, 1, 2, 3);
        segment(x, 4, 0, "xxx");
        due("a gap of one byte, farther on", segment(x, 4, 4, "cc"), 2);
        latest(x, 0, 4, 1, 5, 6);
    }

    private static void normalised(int flags, String bytes, String want, int held) {
        TornStreams x = new TornStreams();
        x.set(1, flags);
        segment(x, 1, 0, bytes);
        String got = characters(x, 1);
        due("'" + bytes + "' with flags " + flags + " gave '" + got + "', due is '" + want + "'",
            got.equals(want) ? 1 : 0, 1);
        due("held of '" + bytes + "' with flags " + flags, x.property(1, 8), held);
        due("read of '" + bytes + "' with flags " + flags, x.property(1, 14), want.length());
    }

    private static void segmentNormalising() {
        normalised(0, "A%41- -.", "A%41- -.", 0);
        normalised(0, "a  b..--", "a  b..--", 0);
        normalised(11, "a  b", "a  b", 0);
        normalised(1, "@AZ[%41", "@az[%41", 0);
        normalised(2, "%41%c1%61", "AAa", 0);
        normalised(2, "%39%59%9a%:9", "9Y\u001a%:9", 0);
        normalised(2, "%@%G%`%/", "%@%G%`%/", 0);
        normalised(2, "%FF%00%2F", "\u007f\u0000/", 0);
        normalised(2, "%g%4g%:", "%g%4g%:", 0);
        normalised(2, "%%41%4%4", "%A%4", 2);
        normalised(2, "%25%4", "%", 2);
        normalised(2, "%2541", "%41", 0);
        normalised(2, "x%", "x", 1);
        normalised(3, "%4A%Ax", "j%ax", 0);
        normalised(4, "  a   b ", " a b ", 0);
        normalised(6, " %20%A0a", " a", 0);
        normalised(8, "-a.b--", "ab", 0);
        normalised(10, "%2da%2E", "a", 0);
        normalised(12, " - . a", " a", 0);
        normalised(4, " - ", " - ", 0);
        TornStreams x = with("ab", "f");
        x.set(1, 11);
        due("find over three bytes", segment(x, 1, 0, "%41--%42%"), 1);
        latest(x, 0, 1, 0, 0, 8);
        due("what was held is found", segment(x, 1, 9, "Fx"), 1);
        latest(x, 0, 1, 1, 9, 10);
        x = with("ba");
        x.set(1, 2);
        x.set(2, 1);
        segment(x, 1, 0, "b%a");
        due("a gap releases what is held", segment(x, 1, 5, "a%"), 1);
        latest(x, 0, 1, 0, NONE, 6);
        due("characters", x.property(1, 14), 4);
        due("held", x.property(1, 8), 1);
        x = new TornStreams();
        x.set(1, 4);
        x.set(2, 1);
        segment(x, 1, 0, " ");
        segment(x, 1, 2, "  ");
        due("a blank behind a gap is read", x.property(1, 14), 2);
    }

    private static void finish() {
        finishRich();
        TornStreams x = with("f", "a");
        due("finish(-1)", x.finish(-1), BAD);
        due("finish(100)", x.finish(100), BAD);
        due("finish(1)", x.finish(1), STATE);
        x.set(1, 2);
        segment(x, 1, 0, "x%f");
        segment(x, 2, 0, "b");
        segment(x, 1, 8, "a");
        due("finish(1)", x.finish(1), 1);
        latest(x, 0, 1, 0, 2, 3);
        due("forgotten", x.property(1, 0), STATE);
        due("flow(0)", x.flow(0), 2);
        due("told(5)", x.told(5), 1);
        due("told(9)", x.told(9), 0);
        due("finish(2)", x.finish(2), 0);
        due("finish(2)", x.finish(2), STATE);
        segment(x, 1, 0, "a");
        due("a new flow with this key", x.property(1, 9), 1);
        x = with("cf");
        x.set(1, 2);
        x.set(2, 1);
        segment(x, 1, 3, "%f");
        due("the percent sign is read before the digit", x.finish(1), 0);
        x.set(1, 0);
        due("without it", segment(x, 1, 3, "f "), 1);
    }

    // A flow that begins has nothing of one that was there before.
    private static void finishRich() {
        TornStreams x = rich();
        x.finish(1);
        segment(x, 1, 5, " ");
        properties(x, 1, 0, 1, 1, 2, 6, 3, 0, 1, 0, 1, 0, 0, 0, 0, 0, 0, 0, 1);
        segment(x, 1, 4, " ");
        due("possible of a new flow", x.possible(1), 1);
        due("nothing read yet", x.read(1, 0), NONE);
        x.set(2, 40);
        x.finish(2);
        segment(x, 2, 0, "a  ");
        due("one blank", x.property(2, 14), 2);
        x.finish(2);
        segment(x, 2, 0, "  b");
        due("the first blank is not dropped", x.property(2, 14), 2);
        segment(x, 2, 3, "%");
        x.finish(2);
        segment(x, 2, 0, "61");
        due("nothing is held", x.property(2, 14), 2);
    }

    // Flow 1 has pieces, a log, held bytes, conflicts, gaps, old segments and finds of both kinds.
    private static TornStreams rich() {
        TornStreams x = with("ab", "b", "bab");
        x.set(0, 2);
        x.set(1, 6);
        x.set(2, 3);
        segment(x, 1, 0, "ab");
        segment(x, 1, 0, "x");
        segment(x, 1, 5, "bxa");
        segment(x, 1, 6, "yb ");
        segment(x, 1, 9, "b %6");
        segment(x, 1, 15, "1");
        segment(x, 2, 0, "b ");
        segment(x, 2, 4, "abab");
        properties(x, 1, 13, 1, 1, 2, 6, 3, 0, 1, 2, 6, 1, 2, 1, 3, 8, 4, 2, 6);
        return x;
    }

    private static void flow() {
        TornStreams x = new TornStreams();
        due("flow(0)", x.flow(0), NONE);
        due("flow(-1)", x.flow(-1), BAD);
        due("flow(min)", x.flow(Integer.MIN_VALUE), BAD);
        segment(x, 5, 0, "a");
        segment(x, 3, 0, "a");
        segment(x, 4, 0, "a");
        segment(x, 3, 50, "a");
        int[] want = {5, 4, 3, NONE, NONE};
        for (int i = 0; i < want.length; i++) {
            due("flow(" + i + ")", x.flow(i), want[i]);
        }
        due("flow(max)", x.flow(Integer.MAX_VALUE), NONE);
    }

    private static void property() {
        TornStreams x = new TornStreams();
        due("property(1, 18)", x.property(1, 18), BAD);
        due("property(1, -1)", x.property(1, -1), BAD);
        due("property(100, 0)", x.property(100, 0), BAD);
        due("property(-1, 0)", x.property(-1, 0), BAD);
        due("property(1, 17)", x.property(1, 17), STATE);
        x = with("a", "ba");
        x.set(0, 1);
        x.set(1, 2);
        x.set(2, 4);
        segment(x, 1, 0, "ba");
        segment(x, 1, 0, "x");
        segment(x, 1, 5, "ab%");
        segment(x, 1, 6, "xy");
        properties(x, 1, 2, 2, 3, 1, 2, 4, 3, 1, 0, 4, 1, 0, 0, 0, 2, 2, 0, 4);
        segment(x, 1, 9, "bc");
        properties(x, 1, 8, 1, 2, 1, 2, 4, 0, 1, 0, 5, 1, 2, 1, 3, 5, 3, 1, 5);
        for (int i = 0; i < 8; i++) {
            segment(x, 1, 0, "o");
        }
        due("segments", x.property(1, 9), 13);
        due("old ones", x.property(1, 10), 9);
        due("in the log", x.property(1, 17), 10);
    }

    private static void byteAt() {
        TornStreams x = new TornStreams();
        due("byteAt(0, 1101)", x.byteAt(0, 1101), BAD);
        due("byteAt(0, -1)", x.byteAt(0, -1), BAD);
        due("byteAt(100, 0)", x.byteAt(100, 0), BAD);
        due("byteAt(-1, 0)", x.byteAt(-1, 0), BAD);
        due("byteAt(0, 0)", x.byteAt(0, 0), STATE);
        x.set(2, 40);
        x.set(0, 1);
        segment(x, 1, 0, "ab");
        segment(x, 1, 3, "cde");
        segment(x, 1, 4, "x");
        int[] want = {NONE, NONE, NONE, 'c', 'x', 'e', NONE};
        for (int i = 0; i < want.length; i++) {
            due("byteAt(1, " + i + ")", x.byteAt(1, i), want[i]);
        }
        due("byteAt(1, 1100)", x.byteAt(1, 1100), NONE);
        segment(x, 2, 999, "0123456789012345678901234567890123456789");
        due("byteAt(2, 998)", x.byteAt(2, 998), NONE);
        due("byteAt(2, 999)", x.byteAt(2, 999), '0');
        due("byteAt(2, 1038)", x.byteAt(2, 1038), '9');
        due("byteAt(2, 1039)", x.byteAt(2, 1039), NONE);
        segment(x, 2, 997, "z");
        due("40 are covered, no more than the bound", x.property(2, 0), 998);
        segment(x, 2, 998, "z");
        due("the greatest offset of a flow", x.property(2, 0), 1039);
        due("old", segment(x, 2, 999, "0123456789012345678901234567890123456789"), 0);
        due("its old segments", x.property(2, 10), 1);
        // A piece that has been delivered in part has no byte before the flow's offset.
        x = new TornStreams();
        x.set(2, 2);
        segment(x, 1, 2, "abc");
        due("delivered by a gap", x.property(1, 0), 5);
        due("byteAt(1, 4)", x.byteAt(1, 4), NONE);
        due("possible(1) behind a gap, without words", x.possible(1), 1);
    }

    private static void possible() {
        TornStreams x = with("abcdefgh");
        due("possible(-1)", x.possible(-1), BAD);
        due("possible(100)", x.possible(100), BAD);
        due("possible(0)", x.possible(0), STATE);
        x.set(2, 1);
        segment(x, 1, 3, "  ");
        due("possible(1)", x.possible(1), 1);
        segment(x, 1, 7, "d");
        due("possible(1), covered", x.possible(1), 1);
        segment(x, 1, 10, "xd");
        due("a gap of 2, d, a gap of 2, x and d", x.possible(1), 1);
        x = with("abcdefgh");
        x.set(2, 1);
        segment(x, 1, 0, "ab");
        due("two letters", x.possible(1), 4);
        segment(x, 1, 4, "e");
        due("no gap yet", x.possible(1), 4);
        segment(x, 1, 9, "f");
        due("ab, 2 bytes, e: abcde or nothing", x.possible(1), 33);
        due("their number", x.property(1, 7), 2);
        x = with("aaaaaaaa", "bbbbbbbb", "cccccccc", "dddddddd", "eeeeeeee", "ffffffff");
        x.set(2, 1);
        segment(x, 1, 999, "f");
        segment(x, 1, 999, "fa");
        // Nodes of one letter from f to eight f: 6, 12, .., 48, and then a.
        due("node a", x.possible(1), 2);
        x.undo();
        segment(x, 1, 999, "ff");
        long all = 0;
        for (int n = 2; n <= 8; n++) {
            all |= 1L << (6 * n);
        }
        due("two to eight f", x.possible(1), all);
    }

    private static void read() {
        TornStreams x = new TornStreams();
        due("read(0, 8)", x.read(0, 8), BAD);
        due("read(0, -1)", x.read(0, -1), BAD);
        due("read(100, 0)", x.read(100, 0), BAD);
        due("read(-1, 0)", x.read(-1, 0), BAD);
        due("read(0, 0)", x.read(0, 0), STATE);
        segment(x, 0, 1, "b");
        due("none read", x.read(0, 0), NONE);
        segment(x, 0, 0, "a");
        due("read(0, 0)", x.read(0, 0), 'b');
        due("read(0, 1)", x.read(0, 1), 'a');
        due("read(0, 2)", x.read(0, 2), NONE);
        segment(x, 0, 2, "cdefghijk");
        for (int i = 0; i < 8; i++) {
            due("read(0, " + i + ")", x.read(0, i), 'k' - i);
        }
        define(x, 0, "a");
        due("read(0, 0) behind define", x.read(0, 0), 'k');
        segment(x, 0, 20, "0123456789A");
        due("read(0, 0) behind a gap", x.read(0, 0), 'A');
    }

    private static void find() {
        TornStreams x = with("a");
        due("find(-1, 0)", x.find(-1, 0), BAD);
        due("find(0, 4)", x.find(0, 4), BAD);
        due("find(0, -1)", x.find(0, -1), BAD);
        due("find(0, 0)", x.find(0, 0), NONE);
        segment(x, 1, 0, "aaaaaaaaaaaaaaaaaaaaaaaaaaaaa");
        due("find(29, 0)", x.find(29, 0), NONE);
        segment(x, 2, 0, "aa");
        due("all finds", x.told(7), 31);
        due("remembered", x.told(6), 30);
        latest(x, 0, 2, 0, 1, 2);
        latest(x, 1, 2, 0, 0, 1);
        latest(x, 2, 1, 0, 28, 29);
        latest(x, 29, 1, 0, 1, 2);
        due("find(30, 0)", x.find(30, 0), NONE);
        due("find(max, 3)", x.find(Integer.MAX_VALUE, 3), NONE);
        due("find(30, 4)", x.find(30, 4), BAD);
        x.finish(1);
        latest(x, 2, 1, 0, 28, 29);
    }

    private static void told() {
        TornStreams x = new TornStreams();
        due("told(12)", x.told(12), BAD);
        due("told(-1)", x.told(-1), BAD);
        x = with("ab");
        define(x, 3, "b");
        x.set(0, 3);
        x.set(1, 9);
        x.set(2, 2);
        segment(x, 1, 0, "ab");
        segment(x, 1, 5, "bbb");
        for (int key = 2; key < 6; key++) {
            segment(x, key, 0, "abab");
        }
        int[] want = {9, 4, 3, 9, 2, 4, 22, 21, 1, 1, 4, 4};
        for (int what = 0; what < want.length; what++) {
            due("told(" + what + ")", x.told(what), want[what]);
        }
    }

    private static void ifSegment() {
        TornStreams x = with("ab", "b");
        due("ifSegment(-1, 0)", x.ifSegment(-1, 0), BAD);
        due("ifSegment(100, 0)", x.ifSegment(100, 0), BAD);
        due("ifSegment(0, 1000)", x.ifSegment(0, 1000), BAD);
        x.clear();
        due("ifSegment(0, 0)", x.ifSegment(0, 0), STATE);
        x.set(2, 40);
        write(x, "ab");
        long before = x.digest();
        due("ifSegment(0, 0)", x.ifSegment(0, 0), 2);
        due("ifSegment(0, 1)", x.ifSegment(0, 1), 0);
        due("nothing changes", x.digest(), before);
        due("segment(0, 0)", x.segment(0, 0), 2);
        due("old", x.ifSegment(0, 0), 0);
        write(x, "b");
        for (int i = 0; i < 6; i++) {
            x.segment(0, 3 + 2 * i);
        }
        before = x.digest();
        due("full", x.ifSegment(0, 2), FULL);
        for (int key = 1; key < 4; key++) {
            x.segment(key, 0);
        }
        before = x.digest();
        due("a fifth flow", x.ifSegment(9, 0), 1);
        due("nothing changes", x.digest(), before);
        due("the pieces are still there", x.property(0, 1), 6);
    }

    private static void replay() {
        TornStreams x = with("abc", "xbc", "bc", "q");
        due("replay(0, 4)", x.replay(0, 4), BAD);
        due("replay(0, -1)", x.replay(0, -1), BAD);
        due("replay(100, 0)", x.replay(100, 0), BAD);
        due("replay(-1, 0)", x.replay(-1, 0), BAD);
        due("replay(0, 0)", x.replay(0, 0), STATE);
        segment(x, 0, 1, "ab");
        segment(x, 0, 1, "x");
        segment(x, 0, 0, "-");
        segment(x, 0, 3, "c");
        long before = x.digest();
        due("replay(0, 0)", x.replay(0, 0), 5);
        due("replay(0, 1)", x.replay(0, 1), 6);
        due("replay(0, 2)", x.replay(0, 2), 5);
        due("replay(0, 3)", x.replay(0, 3), 5);
        due("nothing changes", x.digest(), before);
        for (int i = 0; i < 6; i++) {
            segment(x, 0, 4 + i, "o");
        }
        due("the eleventh one", segment(x, 0, 10, "q"), 1);
        due("is not in the log", x.replay(0, 0), 5);
        define(x, 4, "cooo");
        due("by the words of now", x.replay(0, 0), 21);
        x.set(1, 15);
        x.set(2, 1);
        due("by the flags and the bound of the flow", x.replay(0, 0), 21);
        x = with("a");
        x.set(2, 1);
        segment(x, 1, 1, "ba");
        due("a gap is made again", x.replay(1, 0), 1);
        x = with("ba");
        x.set(2, 1);
        segment(x, 1, 1, "ab");
        due("doubtful", x.told(8), 1);
        due("a doubtful find does not count", x.replay(1, 0), 0);
        x = with("a");
        x.set(1, 2);
        segment(x, 1, 0, "%a");
        due("what is held stays held", x.replay(1, 0), 0);
        x = with("ab");
        segment(x, 1, 0, "a");
        segment(x, 1, 1, "b");
        x.finish(1);
        segment(x, 1, 0, "a");
        due("the log of a flow before does not count", x.replay(1, 0), 0);
        segment(x, 1, 1, "b");
        due("its own does", x.replay(1, 0), 1);
    }

    private static void evasions() {
        TornStreams x = with("abc", "xbc", "bc", "q");
        due("evasions(100)", x.evasions(100), BAD);
        due("evasions(-1)", x.evasions(-1), BAD);
        due("evasions(0)", x.evasions(0), STATE);
        segment(x, 0, 1, "ab");
        segment(x, 0, 1, "x");
        segment(x, 0, 0, "-");
        segment(x, 0, 3, "c");
        long before = x.digest();
        due("evasions(0)", x.evasions(0), 3);
        due("nothing changes", x.digest(), before);
        segment(x, 1, 0, "abcq");
        due("found by each policy", x.evasions(1), 0);
        x = with("ab", "yb", "yy", "-y");
        segment(x, 1, 2, "b");
        segment(x, 1, 1, "yy");
        segment(x, 1, 0, "-");
        due("replay(1, 0)", x.replay(1, 0), 2);
        due("by policy 0 alone, by all others", x.evasions(1), 6);
    }

    private static void nearest() {
        TornStreams x = new TornStreams();
        due("nearest(100)", x.nearest(100), BAD);
        due("nearest(-1)", x.nearest(-1), BAD);
        due("nearest(0)", x.nearest(0), STATE);
        segment(x, 0, 0, "abc");
        due("no word", x.nearest(0), NONE);
        define(x, 0, "abcdefgh");
        due("the whole word", x.nearest(0), 8);
        segment(x, 0, 3, "abcde");
        due("the rest", x.nearest(0), 3);
        segment(x, 0, 8, "fgh");
        due("behind the word", x.nearest(0), 8);
        x = with("aaa", "xyzu");
        segment(x, 0, 0, "aaa");
        due("at least 1", x.nearest(0), 1);
        segment(x, 0, 3, "xy");
        due("two more", x.nearest(0), 2);
        segment(x, 0, 5, "-");
        due("the shortest", x.nearest(0), 3);
        x = with("abcd", "cx");
        segment(x, 0, 0, "abc");
        due("by the fail", x.nearest(0), 1);
        segment(x, 0, 3, "-b");
        due("another word is nearer", x.nearest(0), 2);
    }

    private static void undo() {
        TornStreams x = new TornStreams();
        due("undo()", x.undo(), STATE);
        write(x, "ab");
        long[] before = new long[6];
        before[0] = x.digest();
        x.define(0);
        before[1] = x.digest();
        x.set(1, 2);
        before[2] = x.digest();
        x.segment(7, 0);
        before[3] = x.digest();
        x.finish(7);
        due("told(10)", x.told(10), 4);
        due("undo finish", x.undo(), 3);
        due("as before", x.digest(), before[3]);
        due("undo segment", x.undo(), 2);
        due("as before", x.digest(), before[2]);
        due("undo set", x.undo(), 1);
        due("as before", x.digest(), before[1]);
        due("undo define", x.undo(), 0);
        due("as before", x.digest(), before[0]);
        due("the text stays", x.clear(), 2);
        due("undo()", x.undo(), STATE);
        x = with("ab", "b", "c");
        segment(x, 1, 0, "xa");
        x.forget(0);
        due("next of another automaton", x.next(0, 0), 0);
        due("undo forget", x.undo(), 3);
        due("the node is there again", x.property(1, 6), 1);
        due("and finds", segment(x, 1, 2, "b"), 2);
        due("told(10)", x.told(10), 4);
        x.set(2, 3);
        x.set(2, 4);
        due("only 4 are remembered", x.undo(), 3);
        due("3", x.undo(), 2);
        due("2", x.undo(), 1);
        due("1", x.undo(), 0);
        due("0", x.undo(), STATE);
        due("the oldest were dropped", x.told(0), 7);
        x.define(9);
        x.forget(4);
        x.set(3, 0);
        x.segment(100, 0);
        x.finish(50);
        due("errors are not recorded", x.told(10), 0);
        undoForgotten();
        x = new TornStreams();
        x.set(1, 4);
        segment(x, 1, 0, " ");
        segment(x, 1, 1, "a");
        x.undo();
        segment(x, 1, 1, " ");
        due("the blank before is known again", x.property(1, 14), 1);
        undoRich();
    }

    // Each of seven segments begins a flow; the last three push one out.
    private static void undoForgotten() {
        TornStreams x = new TornStreams();
        x.type('a');
        for (int key = 0; key < 7; key++) {
            due("a new flow", x.segment(key, 0), 0);
        }
        for (int flows = 6; flows >= 3; flows--) {
            due("undo()", x.undo(), flows - 3);
            due("told(9)", x.told(9), Math.max(0, flows - 4));
            int first = Math.max(0, flows - 4);
            for (int i = 0; i < 4; i++) {
                due("flow(" + i + ")", x.flow(i), first + i < flows ? first + i : NONE);
            }
        }
        due("undo()", x.undo(), STATE);
        due("forgets none", x.segment(9, 0), 0);
        due("flow(0)", x.flow(0), 0);
        due("told(9)", x.told(9), 0);
    }

    private static int act(TornStreams x, int i) {
        switch (i) {
            case 0: return x.segment(1, 14);
            case 1: return x.segment(1, 13);
            case 2: return x.segment(2, 8);
            case 3: return x.segment(1, 0);
            case 4: return x.segment(9, 3);
            case 5: return x.finish(1);
            case 6: return x.finish(2);
            case 7: return x.define(5);
            case 8: return x.forget(1);
            default: return x.set(0, 3);
        }
    }

    // Each act behind each other one, twice, with a return between.
    private static void undoRich() {
        for (int i = 0; i < 10; i++) {
            for (int j = 0; j < 10; j++) {
                TornStreams x = rich();
                write(x, "abba");
                x.set(2, 3);
                x.set(2, 3);
                x.undo();
                x.undo();
                long start = x.digest();
                int first = act(x, i);
                long middle = x.digest();
                int second = act(x, j);
                long end = x.digest();
                if (first < 0 || second < 0) {
                    continue;
                }
                due("undo " + j, x.undo(), 3);
                due("as before " + j, x.digest(), middle);
                due("again " + j, act(x, j), second);
                due("as after " + j, x.digest(), end);
                due("undo " + j, x.undo(), 3);
                due("undo " + i, x.undo(), 2);
                due("as before " + i, x.digest(), start);
                due("again " + i, act(x, i), first);
                due("as after " + i, x.digest(), middle);
                due("again " + j, act(x, j), second);
                due("as after " + j, x.digest(), end);
            }
        }
    }

    private static void digest() {
        TornStreams x = new TornStreams();
        long h = hashed(12572, 0, 1, 0, 0, 10, 0, 0, 0, 0, 0, 0, 0, 0, NONE, NONE, NONE, 0);
        due("digest of a new object", x.digest(), h);
        x.type('b');
        x.define(1);
        x.set(2, 3);
        x.segment(4, 0);
        x.segment(4, 2);
        h = hashed(12572, 2, 2, 0, 0, 3, 1, 1, 1, 0, 0, 4, 1);
        h = hashed(h, 0, NONE, NONE, NONE, 0, 1, 0, 1, 0, 2);
        h = hashed(h, 4, 1, 1, 1, 0, 0, 3, 1, 1, 0, 2, 0, 0, 0, 0, 1, 1, 0, 2, 2);
        h = hashed(h, 'b', NONE, NONE, NONE, NONE, NONE, NONE, NONE);
        for (int i = 1; i <= 50; i++) {
            h = hashed(h, i == 2 ? 'b' : NONE);
        }
        due("digest of a flow and a find", x.digest(), hashed(h, 4, 1, 0, 1));
    }

    public static void main(String[] args) {
        Runnable[] promises = {
            PromiseRuns::newObject, PromiseRuns::type, PromiseRuns::clear, PromiseRuns::define,
            PromiseRuns::forget, PromiseRuns::letter, PromiseRuns::node, PromiseRuns::next,
            PromiseRuns::set, PromiseRuns::segments, PromiseRuns::finish, PromiseRuns::flow,
            PromiseRuns::property, PromiseRuns::byteAt, PromiseRuns::possible, PromiseRuns::read,
            PromiseRuns::find, PromiseRuns::told, PromiseRuns::ifSegment, PromiseRuns::replay,
            PromiseRuns::evasions, PromiseRuns::nearest, PromiseRuns::undo, PromiseRuns::digest};
        for (int i = 0; i < promises.length; i++) {
            says("promise " + (i + 1));
            promises[i].run();
        }
        end();
    }

    private static void segments() {
        segmentErrors();
        segmentFlows();
        segmentPolicies();
        segmentGaps();
        segmentReading();
        segmentNormalising();
    }
}
