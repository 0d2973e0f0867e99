/**
 * What the document describes of a segment's steps, of normalising and of reading: each sentence that names an edge
 * (too small, too great, empty, full, around again, refused) has its own test here.
 */
public final class SegmentEdges extends Check {
    // ---- a segment

    private static void offsetsAndBytes() {
        says("A SEGMENT consists of an offset (0 to 999) and of the bytes of the text buffer, of which there must be some.");
        TornStreams x = withSettings(0, 0, 40);
        due("without bytes", x.segment(1, 0), STATE);
        write(x, many("ab", 20));
        due("segment(1, 999)", x.segment(1, 999), 0);
        due("byteAt(1, 998)", x.byteAt(1, 998), NONE);
        due("byteAt(1, 999)", x.byteAt(1, 999), 'a');
        due("byteAt(1, 1038)", x.byteAt(1, 1038), 'b');
        due("byteAt(1, 1039)", x.byteAt(1, 1039), NONE);
        for (int offset : new int[] {1000, -1, MIN, MAX, 1024 + 5}) {
            due("segment(1, " + offset + ")", x.segment(1, offset), BAD);
            due("segment(2, " + offset + ")", x.segment(2, offset), BAD);
            due("ifSegment(1, " + offset + ")", x.ifSegment(1, offset), BAD);
        }
        due("segment(2, 0)", x.segment(2, 0), 0);
        due("all bytes", x.property(2, 0), 40);
        segment(x, 1, 500, "x");
        properties(x, 1, 501, 1, 40);
        segment(x, 1, 998, "x");
        properties(x, 1, 1039, 0, 0);
        due("a gap from 0, another one from 501", x.property(1, 13), 500 + 497);
        due("behind the greatest offset", x.byteAt(1, 1039), NONE);
        due("old", segment(x, 1, 999, many("z", 40)), 0);
        properties(x, 1, 1039, 0, 0, 0, 0, 40, 0, 1, 0, 4, 1);
    }

    private static void stepOne() {
        says("If there is no flow with its key, one begins; if there are four already, the first one in the order (that whose latest segment came longest ago) is forgotten, with the bytes that it holds.");
        TornStreams x = withSettings(0, 2, 10, "f", "a");
        for (int key = 1; key <= 4; key++) {
            segment(x, key, 0, "%f");
        }
        segment(x, 4, 5, "a");
        segment(x, 1, 5, "a");
        due("the fifth one makes no find", segment(x, 5, 0, "x"), 0);
        order(x, 3, 4, 1, 5);
        due("the bytes held are not found", x.told(7), 0);
        due("forgotten", x.property(2, 0), STATE);
        due("flows forgotten in step 1", x.told(9), 1);
        properties(x, 5, 1, 0, 0, 0, 2, 10, 0, 1, 0, 1, 0, 0, 0, 0, 1, 0, 0, 1);
        due("it begins anew", segment(x, 2, 1, "a"), 0);
        order(x, 4, 1, 5, 2);
        properties(x, 2, 0, 1, 1, 0, 2, 10, 0, 1, 0, 1, 0, 0, 0, 0, 0, 0, 0, 1);
        due("flows forgotten in step 1", x.told(9), 2);
        due("an old one is known, none is forgotten", segment(x, 4, 0, "x"), 0);
        due("flows forgotten in step 1", x.told(9), 2);
        says("The flow becomes the last one in the order.");
        order(x, 1, 5, 2, 4);
        says("If its log has fewer than 10 segments, the segment is added to it.");
        x = with("q");
        for (int i = 0; i < 9; i++) {
            segment(x, 1, 0, i == 0 ? "abc" : "q");
        }
        due("old ones are in it", x.property(1, 17), 9);
        segment(x, 1, 3, "q");
        due("the tenth one", x.property(1, 17), 10);
        segment(x, 1, 4, "q");
        due("not the eleventh one", x.property(1, 17), 10);
        due("the tenth one is found", x.replay(1, 0), 1);
    }

    private static void beginsAnew() {
        says("If there is no flow with its key, one begins");
        TornStreams x = busy();
        order(x, 53, 54, 1, 2);
        properties(x, 1, OF_FLOW_1);
        properties(x, 2, OF_FLOW_2);
        int[] anew = {1, 0, 0, 1, 6, 3, 0, 1, 0, 1, 0, 0, 0, 0, 1, 0, 0, 1};
        int[] waiting = {0, 1, 1, 1, 6, 3, 0, 1, 0, 1, 0, 0, 0, 0, 0, 0, 0, 1};
        x.finish(1);
        segment(x, 1, 0, "1");
        properties(x, 1, anew);
        due("read(1, 1)", x.read(1, 1), NONE);
        due("replay(1, 0)", x.replay(1, 0), 0);
        x.finish(2);
        segment(x, 3, 7, " ");
        properties(x, 3, waiting);
        due("read(3, 0)", x.read(3, 0), NONE);
        due("byteAt(3, 7)", x.byteAt(3, 7), ' ');
        x = busy();
        for (int key = 10; key < 14; key++) {
            segment(x, key, 0, " ");
            properties(x, key, anew);
            due("possible nodes", x.possible(key), 1);
        }
    }

    private static void stepTwo() {
        says("If no byte of the segment has an index of at least the offset of the flow, the segment is old, and that is all.");
        TornStreams x = with("c");
        segment(x, 1, 0, "abxab");
        due("its last byte is just before the offset", segment(x, 1, 3, "cc"), 0);
        properties(x, 1, 5, 0, 0, 0, 0, 10, 0, 1, 0, 2, 1, 0, 0, 0, 5, 0, 0, 2);
        due("all of its bytes are before the offset", segment(x, 1, 0, "ccccc"), 0);
        due("old ones", x.property(1, 10), 2);
        says("Otherwise it becomes a piece (as a whole, with its own offset and length).");
        due("its last byte is at the offset", segment(x, 1, 3, "ccc"), 1);
        latest(x, 0, 1, 0, 5, 6);
        properties(x, 1, 6, 0, 0, 0, 0, 10, 1, 1, 0, 4, 2, 0, 0, 0, 6, 1, 0, 4);
        due("its first byte is at the offset", segment(x, 1, 6, "c"), 1);
        due("old ones", x.property(1, 10), 2);
        // A piece that begins before the offset is the longest, and has the smallest offset, by its own.
        for (int policy = 2; policy <= 3; policy++) {
            x = withSettings(policy, 0, 10);
            segment(x, 1, 0, "aaa");
            segment(x, 1, 4, "bbbb");
            segment(x, 1, 0, "cccccc");
            sameText("policy " + policy, characters(x, 1), "aaacccbb");
        }
    }

    private static void stepThree() {
        says("As long as the offset of the flow is covered, the byte for it is chosen by the policy and delivered, and the offset becomes one greater.");
        TornStreams x = withSettings(0, 0, 40);
        segment(x, 1, 3, "de");
        segment(x, 1, 6, "g");
        segment(x, 1, 1, "bc");
        due("not covered", x.property(1, 0), 0);
        segment(x, 1, 0, "a");
        properties(x, 1, 5, 1, 1);
        sameText("delivered", characters(x, 1), "abcde");
        says("If two pieces that cover it have unlike bytes for it, there is a conflict (one for an offset, however many pieces there are).");
        x = withSettings(0, 0, 40);
        segment(x, 1, 1, "aaaaa");
        segment(x, 1, 1, "babaa");
        segment(x, 1, 1, "caaba");
        due("none before they are delivered", x.property(1, 11), 0);
        segment(x, 1, 0, "xa");
        due("by unlike bytes for 1, 3 and 4", x.property(1, 11), 3);
        segment(x, 1, 3, "zzzy");
        due("none with bytes that were delivered", x.property(1, 11), 3);
        segment(x, 1, 8, "pqr");
        segment(x, 1, 9, "q");
        segment(x, 1, 7, "op");
        due("none by like bytes", x.property(1, 11), 3);
        due("all delivered", x.property(1, 0), 11);
        says("Behind that, each piece that has no byte left with an index of at least the offset is removed.");
        x = withSettings(0, 0, 40);
        segment(x, 1, 2, "aaaa");
        segment(x, 1, 3, "a");
        segment(x, 1, 8, "a");
        segment(x, 1, 7, "aa");
        due("pieces", x.property(1, 1), 4);
        segment(x, 1, 0, "aa");
        properties(x, 1, 6, 2, 2);
        segment(x, 1, 6, "a");
        properties(x, 1, 9, 0, 0);
        // Those that stay keep their bytes.
        x = withSettings(0, 0, 40);
        int[] offsets = {20, 2, 6, 12, 3};
        String[] bytes = {"mn", "ab", "cdefg", "hij", "b"};
        for (int i = 0; i < 5; i++) {
            segment(x, 1, offsets[i], bytes[i]);
        }
        segment(x, 1, 0, "xx");
        properties(x, 1, 4, 3, 10);
        for (int i = 0; i < 4; i++) {
            for (int j = 0; i != 1 && j < bytes[i].length(); j++) {
                due("byte " + j + " of piece " + i, x.byteAt(1, offsets[i] + j), bytes[i].charAt(j));
            }
        }
    }

    private static void conflicts() {
        says("there is a conflict (one for an offset, however many pieces there are)");
        String[] unlike = {"ab", "ba", "aab", "aba", "baa", "abc", "abab", "aaab"};
        for (int policy = 0; policy < 4; policy++) {
            for (String at : unlike) {
                TornStreams x = withSettings(policy, 0, 40);
                for (int i = 0; i < at.length(); i++) {
                    segment(x, 1, 1, "" + at.charAt(i));
                }
                due("before it is delivered", x.property(1, 11), 0);
                segment(x, 1, 0, "x");
                due("policy " + policy + ", " + at, x.property(1, 11), 1);
                segment(x, 1, 1, "zx");
                due("behind it", x.property(1, 11), 1);
            }
            TornStreams x = withSettings(policy, 0, 40);
            segment(x, 1, 1, "aaa");
            segment(x, 1, 2, "a");
            segment(x, 1, 0, "xaaaa");
            due("policy " + policy + ", like bytes", x.property(1, 11), 0);
        }
    }

    private static void stepFour() {
        says("If more offsets than the bound are covered (by one piece or several), there is a gap: the flow goes on to the smallest offset that is covered, and step 3 is carried out again; and so on, until no more offsets than the bound are covered.");
        for (int bound = 1; bound <= 40; bound++) {
            TornStreams x = withSettings(0, 0, bound);
            segment(x, 1, 1, many("a", bound));
            properties(x, 1, 0, 1, bound);
            due("no gap", x.property(1, 12), 0);
            segment(x, 1, 1, many("b", bound));
            properties(x, 1, 0, 2, bound);
            segment(x, 1, bound + 2, "a");
            properties(x, 1, bound + 1, 1, 1);
            due("gaps", x.property(1, 12), 1);
            due("their bytes", x.property(1, 13), 1);
            if (bound < 40) {
                segment(x, 2, 3, many("a", bound + 1));
                properties(x, 2, bound + 4, 0, 0);
                due("gaps by one piece", x.property(2, 12), 1);
                due("their bytes", x.property(2, 13), 3);
            }
        }
        // 0 to 2 and 3 to 4 are gaps; then 5 offsets are covered.
        TornStreams x = withSettings(0, 0, 5);
        for (int i = 1; i <= 5; i++) {
            segment(x, 1, 2 * i, "a");
        }
        segment(x, 1, 20, "ab");
        properties(x, 1, 5, 4, 5, 0, 0, 5, 0, 1, 0, 6, 0, 0, 2, 3, 2);
        // The smallest offset is not that of the piece that came first.
        x = withSettings(0, 0, 3);
        segment(x, 1, 9, "ab");
        segment(x, 1, 4, "c");
        segment(x, 1, 6, "d");
        properties(x, 1, 5, 2, 3);
        // All six pieces, one behind the other.
        x = withSettings(0, 0, 5);
        for (int i = 1; i <= 5; i++) {
            segment(x, 1, 3 * i, "a");
        }
        segment(x, 1, 18, "abcabc");
        properties(x, 1, 24, 0, 0, 0, 0, 5, 0, 1, 0, 6, 0, 0, 6, 13, 11);
    }

    private static void policies() {
        says("The policies choose, of the pieces that cover an offset: 0 the one that came first; 1 the one that came last; 2 the one with the smallest offset, of several the one that came first; 3 the longest one (by all its bytes, as it came), of several the one that came first.");
        // At 4 all five have a byte; at 3, 5 and 6 only some.
        int[] offsets = {4, 3, 2, 2, 4};
        String[] bytes = {"AAA", "BBB", "CCC", "DDD", "EEE"};
        String[] want = {"..CBAAA", "..DDEEE", "..CCCBA", "..CBAAA"};
        for (int policy = 0; policy < 4; policy++) {
            TornStreams x = withSettings(policy, 0, 40);
            for (int i = 0; i < 5; i++) {
                segment(x, 1, offsets[i], bytes[i]);
            }
            for (int at = 2; at < 7; at++) {
                due("policy " + policy + ": byteAt(1, " + at + ")", x.byteAt(1, at), want[policy].charAt(at));
            }
            due("policy " + policy + ": byteAt(1, 7)", x.byteAt(1, 7), NONE);
            segment(x, 1, 0, "..");
            sameText("policy " + policy, characters(x, 1), want[policy]);
        }
        // The longest is neither the first nor the last, nor has it the smallest offset.
        String[] byLength = {"ab", "ad", "ab", "ac"};
        for (int policy = 0; policy < 4; policy++) {
            TornStreams x = withSettings(policy, 0, 40);
            segment(x, 1, 1, "b");
            segment(x, 1, 1, "cc");
            segment(x, 1, 1, "d");
            segment(x, 1, 0, "a");
            sameText("policy " + policy, characters(x, 1).substring(0, 2), byLength[policy]);
        }
    }

    // ---- normalising

    private static void normalised(int flags, String bytes, String want, int held) {
        TornStreams x = withSettings(0, flags, 40);
        segment(x, 1, 0, bytes);
        String got = characters(x, 1);
        String end = want.length() <= 8 ? want : want.substring(want.length() - 8);
        sameText("'" + bytes + "' with flags " + flags, got, end);
        due("bytes held of '" + bytes + "' with flags " + flags, x.property(1, 8), held);
        due("characters of '" + bytes + "' with flags " + flags, x.property(1, 14), want.length());
    }

    private static void percents() {
        says("If the flags contain 2: a percent sign is held; if a hexadecimal digit (0 to 9, A to F, a to f) follows, it is held, too; if a second one follows, one character comes of the three bytes: the value of both digits, without its bit 7.");
        normalised(2, "%", "", 1);
        normalised(13, "%", "%", 0);
        normalised(13, "%61", "%61", 0);
        for (char b = 32; b <= 126; b++) {
            int digit = Character.digit(b, 16);
            if (digit >= 0) {
                normalised(2, "%" + b, "", 2);
                normalised(2, "%4" + b, "" + (char) (64 + digit), 0);
                normalised(2, "%8" + b, "" + (char) digit, 0);
                normalised(2, "%" + b + "9", "" + (char) ((16 * digit + 9) % 128), 0);
            } else if (b != '%') {
                normalised(2, "%" + b, "%" + b, 0);
                normalised(2, "%4" + b, "%4" + b, 0);
                normalised(2, "" + b, "" + b, 0);
            }
        }
        normalised(2, "%00%7f%80%FF%e1%C1", "\0\177\0\177aA", 0);
        says("If another byte follows than these, the bytes that are held become characters, one by one, and this byte is looked at as if nothing had been held.");
        normalised(2, "%%", "%", 1);
        normalised(2, "%%%", "%%", 1);
        normalised(2, "%4%", "%4", 1);
        normalised(2, "%%61", "%a", 0);
        normalised(2, "%6%61", "%6a", 0);
        normalised(2, "%6%6", "%6", 2);
        normalised(2, "%6g1", "%6g1", 0);
        normalised(2, "%25%6", "%", 2);
        normalised(2, "%2561", "%61", 0);
        // Held over the end of a segment.
        TornStreams x = withSettings(0, 2, 40, "a");
        segment(x, 1, 0, "%");
        segment(x, 1, 1, "6");
        due("a find by the third byte", segment(x, 1, 2, "1"), 1);
        latest(x, 0, 1, 0, 0, 3);
        segment(x, 1, 3, "%");
        segment(x, 1, 4, "a");
        due("held", x.property(1, 8), 2);
        due("a find by the byte behind", segment(x, 1, 5, "."), 1);
        latest(x, 0, 1, 0, 4, 5);
    }

    private static void changes() {
        says("A character that comes is changed: if the flags contain 1, a letter A to Z becomes the letter a to z; then, if they contain 8, it is dropped if it is a minus sign or a point; then, if they contain 4, a blank is dropped if the latest character that was not dropped, since the flow began or since a gap, was a blank.");
        for (char b = 32; b <= 126; b++) {
            String one = "" + b;
            if (b == '%') {
                continue;
            }
            normalised(0, one, one, 0);
            normalised(14, one, b == '-' || b == '.' ? "" : one, 0);
            normalised(6, one, one, 0);
            normalised(1, one, b >= 'A' && b <= 'Z' ? "" + (char) (b + 32) : one, 0);
            normalised(6, one + one, b == ' ' ? one : one + one, 0);
            normalised(11, one + one, b == '-' || b == '.' ? "" : (one + one).toLowerCase(), 0);
        }
        normalised(3, "%41%5a%40%5b%C1", "az@[a", 0);
        normalised(2, "%41%5a", "AZ", 0);
        normalised(3, "%Ax%F%B", "%ax%f", 2);
        normalised(10, "%2d%2E%ad%AE%2c%2f", ",/", 0);
        normalised(6, "%20%a0%20", " ", 0);
        normalised(4, "  ", " ", 0);
        normalised(4, "   a   ", " a ", 0);
        normalised(4, " a b ", " a b ", 0);
        normalised(12, " -. ", " ", 0);
        normalised(12, "- .", " ", 0);
        normalised(4, " -. ", " -. ", 0);
        normalised(8, "  --  ", "    ", 0);
        normalised(6, " % ", " % ", 0);
        normalised(6, " %0 ", " %0 ", 0);
        normalised(15, "A%2D %20.%20%42", "a b", 0);
    }

    private static void readOrNot() {
        says("A byte that is delivered becomes no character, one or several.");
        TornStreams x = withSettings(0, 10, 40);
        String[] bytes = {".", "a", "%", "4", "x", "%", "%"};
        int[] read = {0, 1, 1, 1, 4, 4, 5};
        for (int i = 0; i < bytes.length; i++) {
            segment(x, 1, i, bytes[i]);
            due("characters behind byte " + i, x.property(1, 14), read[i]);
        }
        says("A character that is not dropped is read.");
        x = withSettings(0, 12, 40, "ab");
        due("one that is dropped does not part a word", segment(x, 1, 0, "a-.b"), 1);
        latest(x, 0, 1, 0, 0, 4);
        due("one that is not dropped does", segment(x, 1, 4, "a b"), 0);
        due("characters", x.property(1, 14), 5);
        due("the latest one", x.read(1, 0), 'b');
        due("one that is dropped is not the latest one", segment(x, 1, 7, "."), 0);
        due("the latest one", x.read(1, 0), 'b');
        segment(x, 1, 8, "  ");
        due("the one before the blank", x.read(1, 1), 'b');
    }

    private static void blanks() {
        says("a blank is dropped if the latest character that was not dropped, since the flow began or since a gap, was a blank");
        TornStreams x = withSettings(0, 4, 1);
        segment(x, 1, 0, " ");
        segment(x, 1, 1, " ");
        due("over the end of a segment", x.property(1, 14), 1);
        define(x, 0, "a");
        segment(x, 1, 2, " ");
        due("over a definition", x.property(1, 14), 1);
        segment(x, 1, 4, "   ");
        due("the first one behind a gap is read", x.property(1, 14), 2);
        segment(x, 2, 0, "  ");
        due("the first one of another flow is read", x.property(2, 14), 1);
        x.finish(1);
        segment(x, 1, 0, "  ");
        due("the first one of a flow that begins again is read", x.property(1, 14), 1);
        x = withSettings(0, 6, 1);
        segment(x, 1, 0, " %");
        segment(x, 1, 4, "  ");
        sameText("what was held, and one blank behind the gap", characters(x, 1), " % ");
    }

    private static void bytesOfCharacters() {
        says("Its bytes are the one or three bytes of which it came.");
        TornStreams x = withSettings(0, 11, 40, "ab", "abcdefgh");
        segment(x, 1, 0, "%61b");
        latest(x, 0, 1, 0, 0, 4);
        segment(x, 1, 4, "a.-%42");
        latest(x, 0, 1, 0, 4, 10);
        segment(x, 1, 10, "-A.b-");
        latest(x, 0, 1, 0, 11, 14);
        segment(x, 1, 15, "%61%62%63%64%65%66%67%68");
        latest(x, 0, 1, 1, 15, 39);
        latest(x, 1, 1, 0, 15, 21);
    }

    // ---- reading

    private static void firstNode() {
        says("A flow has a node, 0 at first, and a set of possible nodes, which has only node 0 at first.");
        TornStreams x = with("ab");
        segment(x, 1, 1, "b");
        due("node", x.property(1, 6), 0);
        due("possible nodes", x.possible(1), 1);
        due("their number", x.property(1, 7), 1);
    }

    private static void lettersAndOthers() {
        says("By a character that is a letter a to z, the node becomes the next one by this letter, and the possible nodes become the next nodes of the possible nodes by it; by any other character, the node becomes 0, and the possible nodes become only node 0.");
        TornStreams x = with("za");
        segment(x, 1, 0, "z");
        due("node z", x.property(1, 6), 1);
        due("possible nodes", x.possible(1), 2);
        segment(x, 1, 1, "a");
        due("node za", x.property(1, 6), 2);
        segment(x, 1, 2, "b");
        due("a letter of no word", x.property(1, 6), 0);
        for (char b = 32; b <= 126; b++) {
            if (b >= 'a' && b <= 'z') {
                continue;
            }
            x = with("zaz");
            segment(x, 1, 0, "z" + b);
            due("node behind " + b, x.property(1, 6), 0);
            due("possible nodes behind " + b, x.possible(1), 1);
            due("finds behind z" + b + "az", segment(x, 1, 2, "az"), 0);
            due("characters", x.property(1, 14), 4);
        }
        // Behind a gap the possible nodes are many, until another character comes.
        x = withSettings(0, 0, 1, "abc");
        segment(x, 1, 3, "  ");
        due("only node 0 behind a blank", x.possible(1), 1);
        segment(x, 1, 9, "ab");
        due("by both letters", x.possible(1), 4);
        segment(x, 1, 14, "bc");
        due("b and c behind a gap", x.possible(1), 9);
        segment(x, 1, 16, "-");
        due("behind a minus sign", x.possible(1), 1);
    }

    private static void finds() {
        says("Then there is a find for each word of the node, in ascending order: with the flow's key, the word, the index of the first byte of the first of the characters that make up the word, and the index behind the last byte of the last one.");
        TornStreams x = with("h", "gh", "abcdefgh", "bcdefgh", "fgh", "h");
        due("finds", segment(x, 99, 0, "xyzabcdefgh"), 6);
        int[] firsts = {10, 9, 3, 4, 8, 10};
        for (int w = 0; w < 6; w++) {
            latest(x, 5 - w, 99, w, firsts[w], 11);
        }
        due("no more", x.find(6, 0), NONE);
        x = with("a");
        write(x, "a");
        due("a find at index 0", x.segment(0, 0), 1);
        latest(x, 0, 0, 0, 0, 1);
        x = withSettings(0, 0, 40, "hi", "a");
        segment(x, 5, 998, "x");
        segment(x, 5, 999, many("a", 38) + "hi");
        segment(x, 5, 0, "a");
        segment(x, 5, 999, "a");
        latest(x, 0, 5, 0, 1037, 1039);
        due("the greatest index behind", x.find(0, 3), 1039);
    }

    private static void doubtfulFinds() {
        says("After these, there is a doubtful find for each word of some possible node that is no word of the node, in ascending order; it has NONE as its first index.");
        TornStreams x = withSettings(0, 0, 1, "abc", "c", "bc", "xbc", "xc");
        due("finds behind a gap of 2", segment(x, 1, 2, "cc"), 6);
        latest(x, 0, 1, 1, 3, 4);
        latest(x, 1, 1, 4, NONE, 3);
        latest(x, 2, 1, 3, NONE, 3);
        latest(x, 3, 1, 2, NONE, 3);
        latest(x, 4, 1, 0, NONE, 3);
        latest(x, 5, 1, 1, 2, 3);
        due("sure ones of the flow", x.property(1, 15), 2);
        due("doubtful ones of the flow", x.property(1, 16), 4);
        due("all sure ones", x.told(7), 2);
        due("all doubtful ones", x.told(8), 4);
    }

    // Of a word of eight letters the last n have to come behind a gap of 8 - n bytes at least.
    private static void gaps() {
        says("Then the node becomes 0, and the possible nodes become all nodes to which 0 to n letters or other characters, whatever they are, lead from a possible node.");
        String word = "abcdefgh";
        for (int gap = 1; gap <= 7; gap++) {
            TornStreams x = withSettings(0, 0, 1, word);
            String rest = word.substring(gap);
            due("a gap of " + gap, segment(x, 1, gap, rest + "-"), 1);
            latest(x, 0, 1, 0, NONE, 8);
            due("a gap of one byte less", gap == 1 ? 0 : segment(x, 2, gap - 1, rest + "-"), 0);
            due("a gap of one byte more", segment(x, 3, gap + 1, rest + "-"), 1);
        }
        TornStreams x = withSettings(0, 0, 1, "abcd", "da", "xyz");
        segment(x, 1, 0, "abc");
        due("node before", x.property(1, 6), x.next(x.next(x.next(0, 0), 1), 2));
        segment(x, 1, 4, "d");
        due("no letters in the gap", segment(x, 1, 6, "d"), 1);
        latest(x, 0, 1, 0, NONE, 5);
        due("node behind", x.property(1, 6), x.next(0, 3));
        x = withSettings(0, 0, 1, "abcd", "da");
        segment(x, 1, 0, "abc");
        due("no gap yet", segment(x, 1, 4, "d"), 0);
        due("a sure find of what came behind the gap", segment(x, 1, 5, "a"), 2);
        latest(x, 0, 1, 1, 4, 6);
        latest(x, 1, 1, 0, NONE, 5);
        x = withSettings(0, 0, 1, "ab");
        segment(x, 1, 0, "a");
        due("no sure find over a gap", segment(x, 1, 2, "b-"), 1);
        due("sure ones", x.told(7), 0);
    }

    private static void possibleNodes() {
        says("the possible nodes become all nodes to which 0 to n letters or other characters, whatever they are, lead from a possible node");
        // Nodes by length: 0, a, ab, abc, abcd; the last gap is before a byte that waits no more.
        for (int gap = 1; gap <= 5; gap++) {
            TornStreams x = withSettings(0, 0, 2, "aaaaaaaa");
            segment(x, 1, 0, "a");
            segment(x, 1, 1 + gap, "aaa");
            // From 0 and a by 0 to n letters: 0 to 1 + n letters a; then three more.
            long want = 0;
            for (int n = 0; n <= 1 + gap; n++) {
                want |= 1L << Math.min(8, n + 3);
            }
            due("possible nodes behind a gap of " + gap, x.possible(1), want);
            due("their number", x.property(1, 7), Long.bitCount(want));
            due("node", x.property(1, 6), 3);
        }
        // Node 48 and all that have a greater number than 31 are in the set.
        TornStreams x = withSettings(0, 0, 1, "aaaaaaaa", "bbbbbbbb", "cccccccc", "dddddddd", "eeeeeeee", "ffffffff");
        segment(x, 1, 999, "ff");
        long want = 0;
        for (int n = 2; n <= 8; n++) {
            want |= 1L << 6 * n;
        }
        due("two to eight f", x.possible(1), want);
        due("their number", x.property(1, 7), 7);
        due("the doubtful ones", x.property(1, 16), 2);
        x = withSettings(0, 0, 1);
        segment(x, 1, 9, "ab");
        due("without words there is only node 0", x.possible(1), 1);
    }

    private static void heldAtGap() {
        says("By a gap of n bytes, first the bytes that are held become characters.");
        TornStreams x = withSettings(0, 2, 1, "a", "ab");
        segment(x, 1, 0, "%a");
        segment(x, 1, 5, "-");
        due("none yet", x.told(6), 0);
        due("a find of what was held", segment(x, 1, 7, "-"), 1);
        latest(x, 0, 1, 0, 1, 2);
        due("nothing is held", x.property(1, 8), 0);
        sameText("characters", characters(x, 1), "%a-");
        // The letter is read before the gap, so that it counts for what is possible behind.
        x = withSettings(0, 2, 1, "ab", "q");
        segment(x, 1, 0, "%a");
        due("ab behind a gap without letters", segment(x, 1, 3, "b-"), 1);
        latest(x, 0, 1, 0, NONE, 4);
        x = withSettings(0, 2, 1, "abb");
        segment(x, 1, 0, "%a");
        due("abb by a gap of one byte", segment(x, 1, 3, "b-"), 1);
        x = withSettings(0, 2, 1, "b");
        segment(x, 1, 0, "%6");
        segment(x, 1, 3, "2-");
        due("no character over a gap", x.told(6), 0);
        sameText("characters", characters(x, 1), "%62-");
    }

    private static void heldAtFinish() {
        says("When a flow is finished, the bytes that are held become characters.");
        TornStreams x = withSettings(0, 3, 10, "f", "a");
        segment(x, 1, 0, "%F");
        segment(x, 2, 0, "%");
        segment(x, 3, 0, "x%61%a");
        segment(x, 4, 0, "x");
        due("finish(1)", x.finish(1), 1);
        latest(x, 0, 1, 0, 1, 2);
        due("finish(2)", x.finish(2), 0);
        due("finish(3)", x.finish(3), 1);
        latest(x, 0, 3, 1, 5, 6);
        due("finish(4)", x.finish(4), 0);
        // The percent sign comes first, so that what was possible behind the gap is not so any more.
        x = withSettings(0, 2, 1, "ca", "a");
        segment(x, 1, 4, "%a");
        due("a find that is not doubtful", x.finish(1), 1);
        latest(x, 0, 1, 1, 5, 6);
    }

    private static void thirtyFinds() {
        says("The latest 30 finds of all flows, doubtful ones included, are remembered.");
        TornStreams x = withSettings(0, 0, 1, "a", "ba");
        segment(x, 1, 0, many("a", 28));
        due("28 finds", x.told(6), 28);
        due("find(27, 3)", x.find(27, 3), 1);
        due("find(28, 3)", x.find(28, 3), NONE);
        segment(x, 2, 1, "a-");
        due("30 finds, one of them doubtful", x.told(6), 30);
        due("find(29, 3)", x.find(29, 3), 1);
        due("find(30, 3)", x.find(30, 3), NONE);
        latest(x, 0, 2, 1, NONE, 2);
        latest(x, 1, 2, 0, 1, 2);
        segment(x, 3, 0, "a");
        due("30 of 31", x.told(6), 30);
        latest(x, 0, 3, 0, 0, 1);
        due("find(29, 3)", x.find(29, 3), 2);
        due("find(30, 3)", x.find(30, 3), NONE);
        segment(x, 4, 0, many("a", 40));
        due("30 of 71", x.told(6), 30);
        due("sure ones", x.told(7), 70);
        due("doubtful ones", x.told(8), 1);
        for (int i = 0; i < 30; i++) {
            due("find(" + i + ", 3)", x.find(i, 3), 40 - i);
        }
        x.finish(4);
        due("they stay when their flow is finished", x.find(29, 0), 4);
    }

    private static void newWords() {
        says("When a word is defined or forgotten, the node of each flow becomes 0, and its possible nodes only node 0.");
        for (int act = 0; act < 2; act++) {
            TornStreams x = withSettings(0, 2, 1, "ab", "aab");
            for (int key = 1; key <= 4; key++) {
                segment(x, key, 2, "a%");
                due("node before", x.property(key, 6), 1);
                due("possible nodes before", x.possible(key), 6);
            }
            segment(x, 4, 9, "ab");
            segment(x, 4, 11, "a");
            due("act", act == 0 ? define(x, 5, "x") : x.forget(1), act == 0 ? 6 : 3);
            for (int key = 1; key <= 4; key++) {
                due("node", x.property(key, 6), 0);
                due("possible nodes", x.possible(key), 1);
                due("their number", x.property(key, 7), 1);
            }
            due("what was held stays held", x.property(1, 8), 1);
            due("what was read stays read", x.read(1, 0), 'a');
            due("no find by letters from before", segment(x, 4, 12, "b"), 0);
            due("a find by letters from now on", segment(x, 4, 13, "ab"), 1);
            latest(x, 0, 4, 0, 13, 15);
        }
    }

    public static void main(String[] args) {
        run(
            SegmentEdges::offsetsAndBytes, SegmentEdges::stepOne, SegmentEdges::beginsAnew, SegmentEdges::stepTwo,
            SegmentEdges::stepThree, SegmentEdges::conflicts, SegmentEdges::stepFour, SegmentEdges::policies,
            SegmentEdges::percents, SegmentEdges::changes, SegmentEdges::readOrNot, SegmentEdges::blanks,
            SegmentEdges::bytesOfCharacters, SegmentEdges::firstNode, SegmentEdges::lettersAndOthers,
            SegmentEdges::finds, SegmentEdges::doubtfulFinds, SegmentEdges::heldAtGap, SegmentEdges::gaps,
            SegmentEdges::possibleNodes, SegmentEdges::heldAtFinish, SegmentEdges::thirtyFinds,
            SegmentEdges::newWords);
    }
}
