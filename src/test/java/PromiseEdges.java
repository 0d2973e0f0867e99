import java.util.Arrays;
import java.util.function.Supplier;

/**
 * The promises 1 to 24 of the document: each sentence that names an edge (too small, too great, empty, full,
 * around again, refused) has its own test here.
 */
public final class PromiseEdges extends Check {
    private static void newObject() {
        says("Creates an object without words and flows, with the settings as at first, without finds, with an empty text buffer.");
        TornStreams x = new TornStreams();
        int[] want = {0, 1, 0, 0, 10, 0, 0, 0, 0, 0, 0, 0};
        for (int what = 0; what < want.length; what++) {
            due("told(" + what + ")", x.told(what), want[what]);
        }
        due("flow(0)", x.flow(0), NONE);
        due("find(0, 0)", x.find(0, 0), NONE);
        due("undo()", x.undo(), STATE);
        due("define(0)", x.define(0), -10);
        due("segment(0, 0)", x.segment(0, 0), STATE);
        due("clear()", x.clear(), 0);
        TornStreams y = crowded();
        due("the other object", y.told(5), 4);
        due("flows of this one", x.told(5), 0);
        due("nodes of this one", x.told(1), 1);
        due("a new one again", new TornStreams().digest(), x.digest());
    }

    private static void type() {
        says("Returns how many bytes it has then; BAD if c is out of range; FULL if it has 40.");
        TornStreams x = new TornStreams();
        for (int c : new int[] {31, 127, 0, -1, 128, 256 + 97, MIN, MAX, -97}) {
            due("type(" + c + ")", x.type(c), BAD);
        }
        due("type(32)", x.type(32), 1);
        due("type(126)", x.type(126), 2);
        for (int i = 3; i <= 40; i++) {
            due("type(33)", x.type(33), i);
        }
        due("type(32)", x.type(32), FULL);
        due("type(126)", x.type(126), FULL);
        due("type(31)", x.type(31), BAD);
        due("clear()", x.clear(), 40);
        due("type(32)", x.type(32), 1);
    }

    private static void clear() {
        says("Empties the text buffer.");
        TornStreams x = withSettings(0, 0, 40);
        write(x, many("a", 40));
        due("clear() of a full one", x.clear(), 40);
        due("clear() of an empty one", x.clear(), 0);
        due("it is empty", x.segment(1, 0), STATE);
        x.type('b');
        x.segment(1, 1);
        due("byteAt(1, 1)", x.byteAt(1, 1), 'b');
        due("byteAt(1, 2)", x.byteAt(1, 2), NONE);
        due("clear()", x.clear(), 1);
    }

    private static void define() {
        says("Returns the number of nodes of the automaton then; BAD if w is out of range; -10 minus the position of the first byte that is no letter a to z, or that is a ninth one, whichever comes first (this position is 0 if the text buffer is empty).");
        TornStreams x = new TornStreams();
        due("an empty text", x.define(0), -10);
        due("an empty text for no word", x.define(6), BAD);
        for (int w : new int[] {-1, 6, MIN, MAX}) {
            due("define(" + w + ")", define(x, w, "a"), BAD);
        }
        for (int position = 0; position < 9; position++) {
            for (char b : new char[] {'`', '{', 'A', 'Z', '~', ' '}) {
                due("no letter at " + position, define(x, 0, many("z", position) + b + "a"), -10 - Math.min(8, position));
            }
        }
        x = new TornStreams();
        for (int length = 9; length <= 40; length += 31) {
            due(length + " letters", define(x, 0, many("a", length)), -18);
        }
        due("no letter at 7, a ninth one at 8", define(x, 0, "abcdefg-i"), -17);
        due("eight letters, a ninth byte that is none", define(x, 0, "abcdefgh-"), -18);
        due("no word was defined", x.told(0), 0);
        due("nothing was recorded", x.told(10), 0);
        due("one letter", define(x, 0, "a"), 2);
        due("eight letters", define(x, 5, "zzzzzzzz"), 10);
        says("Defines a word by the text buffer, which stays, in place of what it was.");
        due("the text", x.told(11), 8);
        due("define(0)", x.define(0), 9);
        due("define(1)", x.define(1), 9);
        due("a shorter one", define(x, 0, "zb"), 10);
        due("letter(0, 1)", x.letter(0, 1), 1);
        due("letter(0, 2)", x.letter(0, 2), NONE);
    }

    private static void forget() {
        says("Returns the number of nodes of the automaton then; BAD if w is out of range; STATE if it is not defined.");
        TornStreams x = with("ab", "abc", "b", "q", "q", "zzzzzzzz");
        for (int w : new int[] {-1, 6, MIN, MAX}) {
            due("forget(" + w + ")", x.forget(w), BAD);
        }
        due("nodes", x.told(1), 14);
        int[] order = {1, 0, 2, 3, 4, 5};
        int[] nodes = {13, 11, 10, 10, 9, 1};
        for (int i = 0; i < 6; i++) {
            due("forget(" + order[i] + ")", x.forget(order[i]), nodes[i]);
            due("forget(" + order[i] + ") again", x.forget(order[i]), STATE);
        }
        due("no word is left", x.told(0), 0);
    }

    private static void letter() {
        says("Returns the number of the letter; NONE if the word has not so many letters; BAD if w is out of range or i is negative; STATE if the word is not defined.");
        TornStreams x = with("a", "zyxwvuts");
        due("letter(0, 0)", x.letter(0, 0), 0);
        due("letter(0, 1)", x.letter(0, 1), NONE);
        due("letter(1, 7)", x.letter(1, 7), 18);
        due("letter(1, 8)", x.letter(1, 8), NONE);
        due("letter(1, MAX)", x.letter(1, MAX), NONE);
        for (int i : new int[] {-1, MIN}) {
            due("letter(0, " + i + ")", x.letter(0, i), BAD);
            due("letter(2, " + i + ")", x.letter(2, i), BAD);
        }
        for (int w : new int[] {-1, 6, MIN, MAX}) {
            due("letter(" + w + ", 0)", x.letter(w, 0), BAD);
        }
        due("letter(2, 0)", x.letter(2, 0), STATE);
        due("letter(5, MAX)", x.letter(5, MAX), STATE);
        x.forget(1);
        due("letter(1, 0)", x.letter(1, 0), STATE);
    }

    private static void node() {
        says("Returns the property; NONE for 1, 2 and 3 if it is node 0; BAD if there is no such node or what is not 0 to 4.");
        TornStreams x = with("a", "b");
        int[][] want = {{0, NONE, NONE, NONE, 0}, {1, 0, 0, 0, 1}, {1, 0, 1, 0, 2}};
        for (int n = 0; n < 3; n++) {
            for (int what = 0; what < 5; what++) {
                due("node(" + n + ", " + what + ")", x.node(n, what), want[n][what]);
            }
            for (int what : new int[] {-1, 5, MIN, MAX}) {
                due("node(" + n + ", " + what + ")", x.node(n, what), BAD);
            }
        }
        for (int n : new int[] {-1, 3, 48, 49, MIN, MAX}) {
            due("node(" + n + ", 0)", x.node(n, 0), BAD);
            due("node(" + n + ", 4)", x.node(n, 4), BAD);
        }
        x.forget(1);
        due("node(2, 0), which is no more", x.node(2, 0), BAD);
        due("node(1, 0)", x.node(1, 0), 1);
        x.undo();
        due("node(2, 0), which is again", x.node(2, 0), 1);
    }

    private static void next() {
        says("Returns the next node; BAD if there is no such node or letter is out of range.");
        TornStreams x = with("az");
        due("next(0, 0)", x.next(0, 0), 1);
        due("next(1, 25)", x.next(1, 25), 2);
        due("next(2, 25)", x.next(2, 25), 0);
        for (int n : new int[] {-1, 3, 49, MIN, MAX}) {
            due("next(" + n + ", 0)", x.next(n, 0), BAD);
        }
        for (int letter : new int[] {-1, 26, 97, MIN, MAX}) {
            due("next(0, " + letter + ")", x.next(0, letter), BAD);
        }
        x.forget(0);
        due("next(1, 25), which is no more", x.next(1, 25), BAD);
    }

    private static void set() {
        says("Returns the value before; BAD if an argument is out of range.");
        TornStreams x = new TornStreams();
        for (int what : new int[] {-1, 3, MIN, MAX}) {
            due("set(" + what + ", 1)", x.set(what, 1), BAD);
        }
        due("set(0, 3)", x.set(0, 3), 0);
        due("set(0, 3)", x.set(0, 3), 3);
        due("set(1, 15)", x.set(1, 15), 0);
        due("set(1, 0)", x.set(1, 0), 15);
        due("set(2, 40)", x.set(2, 40), 10);
        due("set(2, 1)", x.set(2, 1), 40);
        due("set(0, -1)", x.set(0, -1), BAD);
        due("set(1, -1)", x.set(1, -1), BAD);
        due("set(2, -1)", x.set(2, -1), BAD);
        due("set(2, 0)", x.set(2, 0), BAD);
        due("set(0, 4)", x.set(0, 4), BAD);
        due("set(1, 16)", x.set(1, 16), BAD);
        due("set(2, 41)", x.set(2, 41), BAD);
    }

    private static void segment() {
        says("Handles a segment with the bytes of the text buffer, which stays.");
        TornStreams x = with("ab");
        due("segment(1, 0)", x.segment(1, 0), 1);
        due("the text", x.told(11), 2);
        due("segment(2, 0)", x.segment(2, 0), 1);
        due("clear()", x.clear(), 2);
        says("Returns how many finds were made, doubtful ones included; BAD if an argument is out of range; STATE if the text buffer is empty; FULL if there is a flow with this key, and it has 6 pieces (also if the segment would be old).");
        x = withSettings(0, 0, 1, "a", "a", "a", "a", "a", "ba");
        due("doubtful ones included", segment(x, 1, 1, "aa"), 11);
        due("40 times 5", segment(x, 2, 0, many("a", 40)), 200);
        due("none", segment(x, 2, 0, "a"), 0);
        x = withSettings(0, 0, 40);
        segment(x, 7, 0, "ab");
        for (int i = 1; i <= 6; i++) {
            due("piece " + i, segment(x, 7, 2 * i + 1, "a"), 0);
        }
        due("it would be old", segment(x, 7, 0, "a"), FULL);
        due("it would fill the first hole", segment(x, 7, 2, "a"), FULL);
        due("it would cover what is covered", segment(x, 7, 3, "a"), FULL);
        due("ifSegment(7, 0)", x.ifSegment(7, 0), FULL);
        due("there is no such flow", segment(x, 8, 0, "a"), 0);
        due("segments of 7", x.property(7, 9), 7);
        due("old ones of 7", x.property(7, 10), 0);
        order(x, 7, 8);
    }

    private static void finish() {
        says("Finishes a flow: what it holds becomes characters, and it is forgotten.");
        TornStreams x = withSettings(0, 2, 40, "a", "b");
        segment(x, 0, 0, "%a");
        segment(x, 0, 5, "bbb");
        segment(x, 99, 0, "x");
        due("pieces become nothing", x.finish(0), 1);
        order(x, 99);
        due("finish(0) again", x.finish(0), STATE);
        due("it is not forgotten in step 1", x.told(9), 0);
        segment(x, 0, 0, "%");
        properties(x, 0, 1, 0, 0, 0, 2, 40, 0, 1, 1, 1, 0, 0, 0, 0, 0, 0, 0, 1);
        says("Returns how many finds were made, doubtful ones included; BAD if key is out of range; STATE if there is no such flow.");
        for (int key : new int[] {-1, 100, MIN, MAX}) {
            due("finish(" + key + ")", x.finish(key), BAD);
        }
        due("finish(1)", x.finish(1), STATE);
        due("finish(99)", x.finish(99), 0);
        due("finish(0)", x.finish(0), 0);
        order(x);
        due("finish(0)", x.finish(0), STATE);
    }

    private static void flow() {
        says("Returns the key; NONE if there are not so many flows; BAD if i is negative.");
        TornStreams x = new TornStreams();
        for (int i : new int[] {0, 3, 4, MAX}) {
            due("flow(" + i + ") without flows", x.flow(i), NONE);
        }
        for (int i : new int[] {-1, MIN}) {
            due("flow(" + i + ") without flows", x.flow(i), BAD);
        }
        for (int key = 0; key < 4; key++) {
            segment(x, 99 - key, 0, "a");
            order(x, Arrays.copyOf(new int[] {99, 98, 97, 96}, key + 1));
        }
        due("flow(4)", x.flow(4), NONE);
        due("flow(MAX)", x.flow(MAX), NONE);
        due("flow(-1)", x.flow(-1), BAD);
    }

    private static void property() {
        says("Returns the property; BAD if key or what is out of range; STATE if there is no such flow.");
        TornStreams x = crowded();
        for (int what : new int[] {-1, 18, MIN, MAX}) {
            due("property(1, " + what + ")", x.property(1, what), BAD);
            due("property(50, " + what + ")", x.property(50, what), BAD);
        }
        for (int what = 0; what < 18; what++) {
            due("property(50, " + what + ")", x.property(50, what), STATE);
            due("property(100, " + what + ")", x.property(100, what), BAD);
        }
        // Nodes: 1 a, 2 b, 3 ab, 4 ba, 5 bab.
        properties(x, 1, 4, 0, 0, 1, 2, 3, 3, 1, 2, 1, 0, 0, 0, 0, 2, 2, 0, 1);
        // Behind the gap: by b word 1, and 0 and 2 as doubtful ones; by bab all three.
        properties(x, 2, 7, 0, 0, 1, 2, 3, 5, 1, 1, 1, 0, 0, 1, 3, 3, 4, 2, 1);
        properties(x, 7, 0, 6, 6, 1, 2, 40, 0, 1, 0, 6, 0, 0, 0, 0, 0, 0, 0, 6);
    }

    private static void byteAt() {
        says("Returns the byte; NONE if the offset is not covered; BAD if an argument is out of range; STATE if there is no such flow.");
        TornStreams x = withSettings(1, 0, 40);
        segment(x, 1, 0, "ab");
        segment(x, 1, 3, " ~ ");
        segment(x, 1, 4, "cd");
        int[] want = {NONE, NONE, NONE, ' ', 'c', 'd', NONE};
        for (int i = 0; i < want.length; i++) {
            due("byteAt(1, " + i + ")", x.byteAt(1, i), want[i]);
        }
        due("byteAt(1, 1100)", x.byteAt(1, 1100), NONE);
        for (int offset : new int[] {-1, 1101, MIN, MAX}) {
            due("byteAt(1, " + offset + ")", x.byteAt(1, offset), BAD);
        }
        due("byteAt(2, 1100)", x.byteAt(2, 1100), STATE);
        due("byteAt(2, 0)", x.byteAt(2, 0), STATE);
    }

    private static void possible() {
        says("Returns their set, as a bit mask (bit n for node n); BAD if key is out of range; STATE if there is no such flow.");
        TornStreams x = with("aaaaaaaa", "bbbbbbbb", "cccccccc", "dddddddd", "eeeeeeee", "ffffffff");
        due("possible(0)", x.possible(0), STATE);
        due("possible(99)", x.possible(99), STATE);
        due("possible(100)", x.possible(100), BAD);
        due("possible(-1)", x.possible(-1), BAD);
        String[] letters = {"a", "b", "c", "d", "e", "f"};
        for (int length = 1; length <= 8; length++) {
            for (int i = 0; i < 6; i += 5) {
                segment(x, i, length - 1, letters[i]);
                due("the node of " + length + " " + letters[i], x.possible(i), 1L << 6 * (length - 1) + i + 1);
            }
        }
    }

    private static void read() {
        says("Returns the character; NONE if not so many were read; BAD if an argument is out of range; STATE if there is no such flow.");
        TornStreams x = withSettings(0, 2, 40);
        segment(x, 1, 1, "b");
        due("none were read", x.read(1, 0), NONE);
        segment(x, 2, 0, "%00%7f");
        due("the greatest character", x.read(2, 0), 127);
        due("the smallest character", x.read(2, 1), 0);
        due("two were read", x.read(2, 2), NONE);
        segment(x, 1, 0, "a");
        for (int count = 2; count <= 26; count++) {
            for (int i = 0; i < 8; i++) {
                due("read(1, " + i + ") of " + count, x.read(1, i), i < count ? 'a' + count - 1 - i : NONE);
            }
            segment(x, 1, count, "" + (char) ('a' + count));
        }
        for (int i : new int[] {-1, 8, MIN, MAX}) {
            due("read(1, " + i + ")", x.read(1, i), BAD);
        }
        due("read(3, 0)", x.read(3, 0), STATE);
        due("read(3, 7)", x.read(3, 7), STATE);
    }

    private static void find() {
        says("Returns the property; NONE if not so many finds are remembered; BAD if i is negative or what is not 0 to 3.");
        TornStreams x = with("a");
        for (int what = 0; what < 4; what++) {
            due("find(0, " + what + ")", x.find(0, what), NONE);
            due("find(-1, " + what + ")", x.find(-1, what), BAD);
            due("find(MIN, " + what + ")", x.find(MIN, what), BAD);
        }
        segment(x, 3, 0, "a");
        latest(x, 0, 3, 0, 0, 1);
        due("find(1, 0)", x.find(1, 0), NONE);
        due("find(MAX, 3)", x.find(MAX, 3), NONE);
        for (int what : new int[] {-1, 4, MIN, MAX}) {
            due("find(0, " + what + ")", x.find(0, what), BAD);
            due("find(30, " + what + ")", x.find(30, what), BAD);
        }
    }

    private static void told() {
        says("Returns the number; BAD if what is not 0 to 11.");
        TornStreams x = crowded();
        int[] want = {7, x.told(1), 1, 2, 40, 4, 8, 6, 2, 0, 4, 40};
        due("nodes of ab, b, bab", x.told(1), 6);
        for (int what = 0; what < want.length; what++) {
            due("told(" + what + ")", x.told(what), want[what]);
        }
        for (int what : new int[] {-1, 12, MIN, MAX}) {
            due("told(" + what + ")", x.told(what), BAD);
        }
    }

    private static void ifSegment() {
        says("Tells what segment() would return. Nothing changes.");
        int[][] asked = {{1, 0}, {1, 3}, {1, 4}, {1, 7}, {2, 0}, {2, 7}, {2, 999}, {3, 0}, {50, 0}, {50, 999}, {0, 5}, {99, 2}};
        for (int[] a : asked) {
            Supplier<TornStreams> make = () -> {
                TornStreams x = crowded();
                write(x, "bab%61bab");
                return x;
            };
            int would = make.get().segment(a[0], a[1]);
            changesNothing("ifSegment(" + a[0] + ", " + a[1] + ")", make, x -> x.ifSegment(a[0], a[1]), would);
        }
        changesNothing("ifSegment(7, 0)", Check::crowded, x -> x.ifSegment(7, 0), FULL);
        changesNothing("ifSegment(100, 0)", Check::crowded, x -> x.ifSegment(100, 0), BAD);
        changesNothing("ifSegment(0, 1000)", Check::crowded, x -> x.ifSegment(0, 1000), BAD);
        TornStreams x = new TornStreams();
        due("without text", x.ifSegment(0, 0), STATE);
        due("no flow has begun", x.told(5), 0);
    }

    private static void replay() {
        says("Tells which words another policy would find: a new flow with this policy, and with the flags and the bound of a flow, gets the segments of the log of that flow, in their order (what it holds at the end stays held). Nothing changes.");
        TornStreams x = withSettings(0, 0, 10, "ab", "cb", "b", "db");
        segment(x, 1, 1, "a");
        segment(x, 1, 1, "cx");
        segment(x, 1, 1, "d");
        segment(x, 1, 0, "-");
        segment(x, 1, 3, "-b");
        segment(x, 2, 2, "b");
        segment(x, 2, 1, "a");
        segment(x, 2, 1, "cb");
        segment(x, 2, 1, "d");
        segment(x, 2, 0, "-");
        int[] want = {5, 12, 5, 6};
        for (int policy = 0; policy < 4; policy++) {
            due("replay(1, " + policy + ")", x.replay(1, policy), 4);
            due("replay(2, " + policy + ")", x.replay(2, policy), want[policy]);
        }
        x = withSettings(0, 11, 2, "a", "ba", "b");
        segment(x, 1, 1, "A.%");
        due("a gap is made by the bound of the flow", x.replay(1, 0), 1);
        x.set(1, 0);
        x.set(2, 40);
        due("by the flags and the bound of the flow, not of now", x.replay(1, 3), 1);
        segment(x, 1, 4, "b");
        due("what it holds stays held", x.replay(1, 0), 1);
        due("held", x.property(1, 8), 2);
        changesNothing("replay(2, 3)", Check::crowded, y -> y.replay(2, 3), 7);
        changesNothing("replay(7, 0)", Check::crowded, y -> y.replay(7, 0), 0);
        says("Returns the set of the words for which there is a find that is not doubtful, as a bit mask; BAD if an argument is out of range; STATE if there is no such flow.");
        x = withSettings(0, 0, 1, "ba", "c", "c", "c", "c", "c");
        segment(x, 1, 1, "a-");
        due("a doubtful one", x.told(8), 1);
        due("a doubtful one is not in the set", x.replay(1, 0), 0);
        segment(x, 1, 3, "c");
        due("word 5 is in the set", x.replay(1, 0), 62);
        for (int policy : new int[] {-1, 4, MIN, MAX}) {
            due("replay(1, " + policy + ")", x.replay(1, policy), BAD);
        }
        for (int key : new int[] {-1, 100, MIN, MAX}) {
            due("replay(" + key + ", 0)", x.replay(key, 0), BAD);
        }
        due("replay(2, 0)", x.replay(2, 0), STATE);
    }

    private static void evasions() {
        says("Returns the set of the words that are in replay() for some policy, but not for each, as a bit mask; BAD if key is out of range; STATE if there is no such flow.");
        TornStreams x = withSettings(0, 0, 10, "ab", "cb", "b", "db", "q", "cb");
        segment(x, 2, 2, "b");
        segment(x, 2, 1, "a");
        segment(x, 2, 1, "cb");
        segment(x, 2, 1, "d");
        segment(x, 2, 0, "-");
        due("evasions(2)", x.evasions(2), 43);
        segment(x, 3, 0, "abqcb");
        due("by each policy", x.evasions(3), 0);
        segment(x, 4, 0, "x");
        due("by no policy", x.evasions(4), 0);
        due("evasions(1)", x.evasions(1), STATE);
        for (int key : new int[] {-1, 100, MIN, MAX}) {
            due("evasions(" + key + ")", x.evasions(key), BAD);
        }
        // One policy alone finds a word, or one alone does not: by turns, each of the four.
        for (int policy = 0; policy < 4; policy++) {
            due("policy " + policy + " alone finds it", evasionsAt(policy, 'x', 'y'), 1);
            due("policy " + policy + " alone does not find it", evasionsAt(policy, 'y', 'x'), 1);
        }
        changesNothing("evasions(2)", Check::crowded, y -> y.evasions(2), 0);
    }

    // At 3 the first piece, the longest, the one with the smallest offset and the last are four.
    private static int evasionsAt(int policy, char byIt, char byOthers) {
        TornStreams x = with("x");
        int[] offsets = {2, 3, 1, 3};
        int[] lengths = {2, 4, 3, 1};
        int[] pieceOfPolicy = {0, 3, 2, 1};
        for (int i = 0; i < 4; i++) {
            char at = pieceOfPolicy[policy] == i ? byIt : byOthers;
            int before = 3 - offsets[i];
            segment(x, 1, offsets[i], many("p", before) + at + many("p", lengths[i] - before - 1));
        }
        segment(x, 1, 0, "..");
        return x.evasions(1);
    }

    private static void nearest() {
        says("Returns the fewest letters, at least 1; NONE if no word is defined; BAD if key is out of range; STATE if there is no such flow.");
        TornStreams x = new TornStreams();
        due("nearest(0)", x.nearest(0), STATE);
        due("nearest(99)", x.nearest(99), STATE);
        for (int key : new int[] {-1, 100, MIN, MAX}) {
            due("nearest(" + key + ")", x.nearest(key), BAD);
        }
        segment(x, 0, 0, "a");
        due("no word", x.nearest(0), NONE);
        define(x, 5, "aaaaaaaa");
        for (int read = 0; read < 12; read++) {
            due("behind " + read + " letters of eight", x.nearest(0), Math.max(1, 8 - read));
            segment(x, 0, 1 + read, "a");
        }
        segment(x, 0, 13, "b");
        due("from node 0", x.nearest(0), 8);
        define(x, 0, "z");
        due("a word of one letter", x.nearest(0), 1);
        x.forget(0);
        x.forget(5);
        due("no word any more", x.nearest(0), NONE);
        // Behind a gap the possible nodes are nearer, but a find of them is doubtful.
        x = withSettings(0, 0, 1, "abcdefgh");
        segment(x, 1, 5, "fg");
        due("possible nodes, one of them abcdefg", x.possible(1), 129);
        due("from the node, not from the possible ones", x.nearest(1), 8);
        segment(x, 1, 7, "-ab");
        due("from ab", x.nearest(1), 6);
    }

    private static void undo() {
        says("Returns to the latest remembered state, which is not remembered any more then. The text buffer stays.");
        TornStreams x = new TornStreams();
        write(x, "ab");
        x.define(0);
        write(x, "xyz");
        due("undo()", x.undo(), 0);
        due("the text", x.told(11), 3);
        x.set(2, 40);
        x.segment(1, 1);
        due("byteAt(1, 3)", x.byteAt(1, 3), 'z');
        says("Returns how many states are still remembered; STATE if there is none.");
        due("undo()", x.undo(), 1);
        due("undo()", x.undo(), 0);
        due("undo()", x.undo(), STATE);
        due("undo()", x.undo(), STATE);
        due("clear()", x.clear(), 3);
        due("a new object", x.digest(), new TornStreams().digest());
    }

    private static long digestOf(TornStreams x) {
        long h = 12572;
        for (int what = 0; what <= 11; what++) {
            h = 31 * h + x.told(what);
        }
        int nodes = x.told(1);
        for (int n = 0; n < nodes; n++) {
            for (int what = 0; what <= 4; what++) {
                h = 31 * h + x.node(n, what);
            }
        }
        int flows = x.told(5);
        for (int i = 0; i < flows; i++) {
            int key = x.flow(i);
            h = 31 * h + key;
            for (int what = 0; what <= 17; what++) {
                h = 31 * h + x.property(key, what);
            }
            h = 31 * h + x.possible(key);
            for (int j = 0; j <= 7; j++) {
                h = 31 * h + x.read(key, j);
            }
            int offset = x.property(key, 0);
            for (int j = 0; j < 50; j++) {
                h = 31 * h + x.byteAt(key, offset + j);
            }
        }
        int finds = x.told(6);
        for (int i = 0; i < finds; i++) {
            for (int what = 0; what <= 3; what++) {
                h = 31 * h + x.find(i, what);
            }
        }
        return h;
    }

    private static void digest() {
        says("Computes a hash of the whole object. h is 12572 at first; then h becomes 31 * h + v (long arithmetic that wraps around) for each of these values v, in this order: told() for 0 to 11; for each node node() for 0 to 4; for each flow, in their order, its key, property() for 0 to 17, possible(), read() for 0 to 7, and byteAt() for the 50 offsets from that of the flow on; for each remembered find, the latest first, find() for 0 to 3.");
        TornStreams x = new TornStreams();
        due("a new object", x.digest(), digestOf(x));
        x = with("aaaaaaaa", "bbbbbbbb", "cccccccc", "dddddddd", "eeeeeeee", "ffffffff");
        due("49 nodes", x.digest(), digestOf(x));
        x = new TornStreams();
        for (int key = 96; key <= 99; key++) {
            segment(x, key, key - 96, "a");
        }
        due("four flows", x.digest(), digestOf(x));
        x = with("a");
        segment(x, 1, 0, many("a", 31));
        due("30 finds", x.digest(), digestOf(x));
        // The pieces reach beyond the 50th offset.
        x = withSettings(0, 0, 40, "ab", "b");
        segment(x, 1, 0, "ab");
        segment(x, 1, 40, "0123456789abcdefghi");
        due("byteAt for the 50th offset", x.byteAt(1, 51), 'b');
        due("pieces", x.digest(), digestOf(x));
        x = withSettings(0, 0, 1, "b", "ab");
        segment(x, 1, 999, many("b", 40));
        due("the greatest offset", x.property(1, 0), 1039);
        due("finds behind a gap", x.digest(), digestOf(x));
    }

    public static void main(String[] args) {
        run(
            PromiseEdges::newObject, PromiseEdges::type, PromiseEdges::clear, PromiseEdges::define,
            PromiseEdges::forget, PromiseEdges::letter, PromiseEdges::node, PromiseEdges::next, PromiseEdges::set,
            PromiseEdges::segment, PromiseEdges::finish, PromiseEdges::flow, PromiseEdges::property,
            PromiseEdges::byteAt, PromiseEdges::possible, PromiseEdges::read, PromiseEdges::find, PromiseEdges::told,
            PromiseEdges::ifSegment, PromiseEdges::replay, PromiseEdges::evasions, PromiseEdges::nearest,
            PromiseEdges::undo, PromiseEdges::digest);
    }
}
